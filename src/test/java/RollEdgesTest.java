/** The boundary cases of THE ROLL and of QUIT: Terms IV, promises 26 and 27; each sentence by itself. */
final class RollEdgesTest {
    private static final long NO_ROLL = -2000000000000L;
    private static final int[] NO_TERMS = {-1, 40, Integer.MIN_VALUE, Integer.MAX_VALUE};
    private static final int[] NO_SHIRES = {-1, 8, Integer.MIN_VALUE, Integer.MAX_VALUE};

    public static void main(String[] args) {
        all();
        Check.close("RollEdgesTest");
    }

    static void all() {
        order();
        farms();
        moment();
        allowances();
        pardons();
        coins();
        tallies();
        splits();
        beyond();
        quit();
        roll();
        owed();
    }

    private static void order() {
        Check.says("IV: THE ROLL goes from TERM 0 on, its debt 0 ahead of it");
        ChequeredCloth x = new ChequeredCloth();
        for (int shire = 0; shire < 8; shire++) {
            Ask.roll("no acts", x, shire, 0, 0, 0, 0, 0, 0, 0, 1);
            Ask.roll("no acts", x, shire, 39, 0, 0, 0, 0, 0, 0, 1);
        }
        x = Ask.under("farm 5 for term = 0; farm debt for term = 1; farm 70 for term = 39;");
        Ask.roll("from 0 on", x, 3, 0, 5, 0, 5);
        Ask.roll("from 0 on", x, 3, 1, 10, 0, 5);
        Ask.roll("from 0 on", x, 3, 38, 10, 0, 0);
        Ask.roll("up to 39", x, 3, 39, 80, 0, 70);
        Check.says("IV: all STATEMENTS in their order");
        x = Ask.under("farm 1 for debt = 0; farm 10 for debt = 1; farm 100 for debt = 1; farm 100 for debt = 11;");
        Ask.roll("farms in order", x, 0, 0, 111, 0, 111);
        x = Ask.under("farm 99 for all; allow 1 for debt = 99; allow 10 for debt = 98; allow 100 for debt = 98;");
        Ask.roll("allowances in order", x, 0, 0, 88, 0, 99, 11);
        x = Ask.under("farm 99 for all; pardon 1 in 2 for all; pardon 1 in 3 for debt = 50; pardon 1 in 2 for debt = 50;");
        Ask.roll("pardons in order", x, 0, 0, 34, 0, 99, 0, 65);
        x = Ask.under("farm 99 for term = 0; split 3 for debt = 99; split 2 for debt = 33; split 2 for debt = 33;");
        Ask.roll("splits in order", x, 0, 0, 17, 82);
        Check.says("IV: in each TERM: what was put off, farms, allowances, pardons, PAYMENTS, splits");
        x = Ask.under("split 2 for debt > 0; pardon 1 in 2 for debt > 0; allow 10 for debt > 0; farm 100 for term = 0;"
                + "farm 7 for debt = 17 and term = 1;");
        x.pays(0, 0, 11);
        // 100, less 10, less 45, less 11: 34, of which 17 stay
        Ask.roll("100", x, 0, 0, 17, 17, 100, 10, 45, 11, 0);
        x.pays(0, 1, 1);
        // 17 and 17 that were put off: the farm finds 34, not 17
        Ask.roll("34", x, 0, 1, 6, 5, 0, 10, 12, 1, 0);
    }

    private static void farms() {
        Check.says("IV: farms come (0 at least each)");
        for (int n = -2; n <= 2; n++) {
            ChequeredCloth x = Ask.under("farm 10 for all; farm " + (n + 2) + " - 2 for all;");
            Ask.roll("a farm of " + n, x, 0, 0, 10 + Math.max(0, n), 0, 10 + Math.max(0, n));
        }
        ChequeredCloth x = Ask.under("farm 0 - 50000 * 20000 for all; farm 3 for all;");
        Ask.roll("each by itself", x, 0, 0, 3, 0, 3);
    }

    private static void moment() {
        Check.says("IV: debt in a SUM is that of this moment, so further on");
        ChequeredCloth x = Ask.under("farm debt + 10 for all; farm debt for all; allow debt / 4 for all; allow debt / 3 for all;"
                + "pardon 1 in 2 for debt = 10; split 2 for debt = 5;");
        Ask.roll("10, 20, less 5, less 5, less 5, split", x, 0, 0, 3, 2, 20, 10, 5, 0, 0);
        Check.says("IV: paid: nothing yet, ahead of PAYMENTS");
        x = Ask.under("farm 100 + paid for paid = 0; allow paid for all; allow 1 for paid = 0; pardon 1 in 99 for paid = 0;");
        x.pays(0, 0, 7);
        x.pays(0, 1, 7);
        Ask.roll("nothing yet", x, 0, 0, 91, 0, 100, 1, 1, 7);
        Ask.roll("nothing anew", x, 0, 1, 91 + 100 - 1 - 1 - 7, 0, 100, 1, 1, 7);
        Check.says("IV: paid: their sum so far");
        x = Ask.under("farm 100 for all; split 2 for paid = 12;");
        x.pays(0, 0, 5);
        x.pays(1, 0, 12);
        Ask.roll("5", x, 0, 0, 95, 0);
        Ask.roll("12 of another SHIRE", x, 1, 0, 44, 44);
        x.pays(0, 0, 7);
        Ask.roll("5 and 7", x, 0, 0, 44, 44);
        x.pays(0, 0, 1);
        Ask.roll("5 and 7 and 1", x, 0, 0, 87, 0);
    }

    private static void allowances() {
        Check.says("IV: allowances go off (0 at least each)");
        for (int n = -2; n <= 2; n++) {
            ChequeredCloth x = Ask.under("farm 10 for all; allow " + (n + 2) + " - 2 for all; allow 3 for all;");
            Ask.roll("an allowance of " + n, x, 0, 0, 7 - Math.max(0, n), 0, 10, 3 + Math.max(0, n));
        }
        Check.says("IV: the debt may go below 0");
        for (int n = 9; n <= 11; n++) {
            ChequeredCloth x = Ask.under("farm 10 for term = 0; allow " + n + " for term = 0;");
            Ask.roll("less " + n, x, 0, 0, 10 - n, 0, 10, n);
            Ask.roll("and stays so", x, 0, 1, 10 - n);
        }
        ChequeredCloth x = Ask.under("allow 50000 * 20000 for all;");
        Ask.roll("far below", x, 0, 39, -40000000000L);
    }

    private static void pardons() {
        Check.says("IV: a pardon: floor(debt times the first / the second)");
        long[] off = {1, 2, 2, 3, 4, 4};
        for (int debt = 2; debt < 8; debt++) {
            ChequeredCloth x = Ask.under("farm " + debt + " for all; pardon 2 in 3 for all;");
            Ask.roll("2 in 3 of " + debt, x, 0, 0, debt - off[debt - 2], 0, debt, 0, off[debt - 2]);
        }
        ChequeredCloth x = Ask.under("farm 998 for shire 0; farm 999 for shire 1; pardon 1 in 999 for all;");
        Ask.roll("1 in 999 of 998", x, 0, 0, 998, 0, 998, 0, 0);
        Ask.roll("1 in 999 of 999", x, 1, 0, 998, 0, 999, 0, 1);
        x = Ask.under("farm 1 for all; pardon 998 in 999 for all;");
        Ask.roll("998 in 999 of 1", x, 0, 0, 1, 0, 1, 0, 0);
        x = Ask.under("farm 7 for all; pardon 5 in 5 for all;");
        Ask.roll("5 in 5 of 7", x, 0, 0, 0, 0, 7, 0, 7, 0, 1);
        x = Ask.under("farm 50000 * 20000 for all; farm 50000 * 20000 for all; pardon 998 in 999 for term = 39;");
        Ask.roll("of a great one", x, 0, 39, 80080081, 0, 2000000000, 0, 79919919919L);
        Check.says("IV: a pardon goes off, if the debt is above 0");
        for (int debt = -3; debt <= 1; debt++) {
            x = Ask.under("farm 10 for all; allow 10 - " + (debt + 3) + " + 3 for all; pardon 1 in 1 for all;");
            Ask.roll("of a debt of " + debt, x, 0, 0, Math.min(debt, 0), 0, 10, 10 - debt, Math.max(debt, 0));
        }
    }

    private static void coins() {
        Check.says("IV: COIN, if one of the TERM's farms for this SHIRE was blanched");
        ChequeredCloth x = Ask.under("farm 10 blanched for shire 1 and term = 1; farm 10 for all; farm 10 for all;");
        for (int shire = 0; shire < 2; shire++) {
            for (int term = 0; term < 3; term++) {
                x.pays(shire, term, 240);
                x.fire(term, 24);
            }
        }
        Check.due("another SHIRE's was", x.roll(0, 1, 5), 240);
        Check.due("the TERM before", x.roll(1, 0, 5), 240);
        Check.due("it was", x.roll(1, 1, 5), 216);
        Check.due("the TERM behind", x.roll(1, 2, 5), 240);
        x = Ask.under("farm 10 for all; farm 10 for all; farm 10 blanched for all;");
        x.fire(0, 24);
        x.pays(0, 0, 240);
        Check.due("the last of three was", x.roll(0, 0, 5), 216);
        Check.says("IV: COIN: less floor(pence times FIRE / 240)");
        int[][] due = {{1, 120, 1}, {2, 120, 1}, {3, 120, 2}, {239, 1, 239}, {240, 1, 239}, {241, 1, 240},
            {479, 1, 478}, {480, 1, 478}, {1000000, 120, 500000}, {999999, 120, 500000}, {1000000, 119, 504167},
            {19, 12, 19}, {20, 12, 19}, {240, 0, 240}};
        for (int[] d : due) {
            x = Ask.under("farm 1 blanched for all;");
            x.fire(0, d[1]);
            x.pays(0, 0, d[0]);
            Check.due(d[0] + " by " + d[1], x.roll(0, 0, 5), d[2]);
        }
        x = Ask.under("farm 1 blanched for all;");
        x.fire(0, 120);
        x.pays(0, 0, 1);
        x.pays(0, 0, 1);
        Check.due("each by itself: 1 and 1 lose nothing", x.roll(0, 0, 5), 2);
    }

    private static void tallies() {
        Check.says("IV: by TALLY, if it is GOOD as things are now (else nothing)");
        ChequeredCloth x = Ask.under("farm 1000 blanched for all;");
        x.fire(0, 120);
        x.tally(0, 0, 3);
        Ask.roll("no stock", x, 0, 0, 1000, 0, 1000, 0, 0, 0);
        x.cut(false, 3, 100, 2);
        Ask.roll("no foil", x, 0, 0, 1000, 0, 1000, 0, 0, 0);
        x.cut(true, 8, 103, 2);
        Ask.roll("good, not tried by fire", x, 0, 0, 760, 0, 1000, 0, 0, 240);
        x.wear(3, 8, 3);
        Ask.roll("fit 3 by limit 3", x, 0, 0, 760);
        x.wear(3, 8, 2);
        Ask.roll("fit 3 by limit 2", x, 0, 0, 1000);
        x.wear(3, 8, 20);
        x.cut(false, 2, 100, 2);
        Ask.roll("the foil is another's", x, 0, 0, 1000);
        x.tally(0, 0, 2);
        Ask.roll("by the other, which is good", x, 0, 0, 760);
        x.cut(true, 9, 100, 2);
        Ask.roll("both are", x, 0, 0, 520, 0, 1000, 0, 0, 480);
        x.cut(false, 2, 240, 1);
        x.cut(true, 9, 240, 1);
        Ask.roll("its SUM is that of now", x, 0, 0, 1000 - 240 - 252);
        x.as(2);
        Ask.roll("as known ahead of the tallies", x, 0, 0, 1000);
        x.as(3);
        Ask.roll("as known at the first", x, 0, 0, 760);
        x.burn(true, 8);
        Ask.roll("GOOD is of now, whatever is known", x, 0, 0, 1000);
    }

    private static void splits() {
        Check.says("IV: splits: of floor(debt / N) one part stays, each of the next N - 1 TERMS gets one, the rest stays too");
        for (int debt = 5; debt <= 10; debt++) {
            int part = debt / 3;
            ChequeredCloth x = Ask.under("farm " + debt + " for term = 0; split 3 for term = 0;");
            Ask.roll("a third of " + debt, x, 0, 0, debt - 2 * part, 2 * part);
            Ask.roll("one came", x, 0, 1, debt - part, part);
            Ask.roll("two came", x, 0, 2, debt, 0);
            Ask.roll("no more", x, 0, 3, debt, 0);
        }
        for (int n = 2; n <= 20; n++) {
            ChequeredCloth x = Ask.under("farm 100 for term = 7; split " + n + " for term = 7;");
            int part = 100 / n;
            Ask.roll("split " + n, x, 0, 7, 100 - part * (n - 1), part * (n - 1));
            Ask.roll("split " + n + ", all but one came", x, 0, 5 + n, 100 - part, part);
            Ask.roll("split " + n + ", all came", x, 0, 6 + n, 100, 0);
        }
        Check.says("IV: splits: less than N: nothing is put off");
        ChequeredCloth x = Ask.under("farm 19 for shire 0 and term = 0; farm 20 for shire 1 and term = 0; split 20 for term = 0;");
        Ask.roll("19 in 20", x, 0, 0, 19, 0);
        Ask.roll("20 in 20", x, 1, 0, 1, 19);
        Check.says("IV: splits: if the debt is above 0");
        for (int debt = -4; debt <= 2; debt++) {
            x = Ask.under("farm 10 for all; allow 10 - " + (debt + 4) + " + 4 for all; split 2 for all;");
            Ask.roll("of a debt of " + debt, x, 0, 0, debt == 2 ? 1 : debt, debt == 2 ? 1 : 0);
        }
        Check.says("IV: what was put off comes to the debt, and can be put off again");
        x = Ask.under("farm 90 for term = 0; split 3 for term < 2;");
        Ask.roll("90", x, 0, 0, 30, 60);
        Ask.roll("60, split anew", x, 0, 1, 20, 70);
        Ask.roll("20, and 30 and 20 came", x, 0, 2, 70, 20);
        Ask.roll("and 20", x, 0, 3, 90, 0);
        x = Ask.under("farm 64 for term = 0; split 2 for all;");
        for (int term = 0; term < 40; term++) {
            Ask.roll("64, again and again", x, 0, term, 32, 32);
        }
    }

    private static void beyond() {
        Check.says("IV: beyond TERM 39: told as put off, never due");
        for (int n = 2; n <= 20; n++) {
            ChequeredCloth x = Ask.under("farm 2000 for term = 39; split " + n + " for term = 39;");
            int part = 2000 / n;
            Ask.roll("split " + n + " at 39", x, 0, 39, 2000 - part * (n - 1), part * (n - 1), 2000, 0, 0, 0, 0);
        }
        ChequeredCloth x = Ask.under("farm 2000 for term = 20; split 20 for term = 20;");
        Ask.roll("the last is due at 39", x, 0, 38, 1900, 100);
        Ask.roll("the last is due at 39", x, 0, 39, 2000, 0);
        x = Ask.under("farm 2000 for term = 21; split 20 for term = 21;");
        Ask.roll("the last would be due at 40", x, 0, 38, 1800, 200);
        Ask.roll("the last would be due at 40", x, 0, 39, 1900, 100);
    }

    private static void quit() {
        Check.says("IV: QUIT: the debt is not above 0");
        for (int debt = -1; debt <= 1; debt++) {
            ChequeredCloth x = Ask.under("farm 10 for term = 0;");
            x.pays(0, 0, 10 - debt);
            Check.due("QUIT with a debt of " + debt, x.roll(0, 0, 6), debt <= 0 ? 1 : 0);
            Check.due("QUIT at 39", x.roll(0, 39, 6), debt <= 0 ? 1 : 0);
        }
        Check.says("IV: QUIT: nothing is put off to later ones");
        ChequeredCloth x = Ask.under("farm 3 for term = 0; split 3 for term = 0;");
        x.pays(0, 1, 2);
        x.pays(0, 2, 1);
        Ask.roll("one stays", x, 0, 0, 1, 2, 3, 0, 0, 0, 0);
        Ask.roll("debt 0, one is put off", x, 0, 1, 0, 1, 0, 0, 0, 2, 0);
        Ask.roll("nothing is", x, 0, 2, 0, 0, 0, 0, 0, 1, 1);
        x = Ask.under("farm 2 for term = 39; split 2 for all;");
        x.pays(0, 38, 5);
        Ask.roll("put off while it is below 0", x, 0, 39, -3, 0, 2, 0, 0, 0, 1);
        x = Ask.under("farm 4 for term = 38; split 3 for term = 38; allow 4 for term = 39;");
        Ask.roll("below 0, but one is put off beyond 39", x, 0, 39, -1, 1, 0, 4, 0, 0, 0);
    }

    private static void roll() {
        Check.says("26: 0 the debt, 1 put off, 2 farms, 3 allowances, 4 pardons, 5 PAYMENTS as they went off, 6 QUIT");
        ChequeredCloth x = Ask.under("farm 1000 blanched for all; allow 100 for all; pardon 1 in 9 for all; split 2 for all;");
        x.fire(0, 60);
        x.pays(0, 0, 40);
        Ask.roll("all seven", x, 0, 0, 385, 385, 1000, 100, 100, 30, 0);
        x.pays(0, 0, 1026);
        Ask.roll("all seven", x, 0, 0, 0, 0, 1000, 100, 100, 800, 1);
        Check.says("26: -2000000000000 when there are none such");
        for (int shire : NO_SHIRES) {
            Check.due("Ask.roll(" + shire + ", 0, 0)", x.roll(shire, 0, 0), NO_ROLL);
        }
        for (int term : NO_TERMS) {
            Check.due("roll(0, " + term + ", 0)", x.roll(0, term, 0), NO_ROLL);
        }
        Check.due("roll(0, 0, 2)", x.roll(0, 0, 2), 1000);
        Check.due("roll(7, 39, 2)", x.roll(7, 39, 2), 1000);
        Check.says("26: -2000000000000 for others");
        for (int what : new int[] {-1, 7, Integer.MIN_VALUE, Integer.MAX_VALUE}) {
            Check.due("roll(0, 0, " + what + ")", x.roll(0, 0, what), NO_ROLL);
        }
        Check.due("roll(0, 0, 0)", x.roll(0, 0, 0), 0);
        Check.due("roll(0, 0, 6)", x.roll(0, 0, 6), 1);
    }

    private static void owed() {
        Check.says("27: the sum of the debts above 0 of all SHIRES");
        ChequeredCloth x = new ChequeredCloth();
        Check.due("owed(0) of none", x.owed(0), 0);
        x = Ask.under("farm 10 for term = 0;");
        Check.due("owed(0)", x.owed(0), 80);
        x.pays(0, 0, 9);
        Check.due("one debt of 1", x.owed(0), 71);
        x.pays(7, 0, 10);
        Check.due("one of 0", x.owed(0), 61);
        x.pays(3, 0, 90);
        Check.due("one of -80", x.owed(0), 51);
        x.pays(0, 39, 2);
        Check.due("one of -1 at 39", x.owed(39), 50);
        Check.due("of 1 at 38", x.owed(38), 51);
        x = Ask.under("farm 50000 * 20000 for all; farm 50000 * 20000 for all;");
        Check.due("more than an int", x.owed(39), 640000000000L);
        Check.says("27: what is put off is not owed yet");
        x = Ask.under("farm 10 for term = 0; split 2 for term = 0;");
        Check.due("owed(0)", x.owed(0), 40);
        Check.due("owed(1)", x.owed(1), 80);
        Check.says("27: NONE when there is none such");
        Check.due("owed(39)", x.owed(39), 80);
        for (int term : NO_TERMS) {
            Check.due("owed(" + term + ")", x.owed(term), -1);
        }
    }
}
