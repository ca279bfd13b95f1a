/** Promises 21 to 27 and 31: payments, fire, void acts, and the roll of debts. */
final class RollTest {
    private static final long NO_ROLL = -2000000000000L;

    public static void main(String[] args) {
        payments();
        tallies();
        fires();
        voids();
        as();
        rollNone();
        farms();
        allowances();
        pardons();
        splits();
        beyondTheLastTerm();
        coinByFire();
        momentOfDebt();
        numbers();
        writOfTerm();
        owed();
        all();
        Check.close("RollTest");
    }

    private static void payments() {
        ChequeredCloth x = new ChequeredCloth();
        int[][] wrong = {{-1, 0, 1}, {8, 0, 1}, {0, -1, 1}, {0, 40, 1}, {0, 0, 0}, {0, 0, -1}, {0, 0, 1000001}};
        for (int[] w : wrong) {
            Check.due("pays(" + w[0] + ", " + w[1] + ", " + w[2] + ")", x.pays(w[0], w[1], w[2]), -1);
        }
        Check.due("all(0)", x.all(0), 0);
        Check.due("pays(0, 0, 1)", x.pays(0, 0, 1), 1);
        Check.due("pays(7, 39, 1000000)", x.pays(7, 39, 1000000), 2);
        Ask.roll("paid", x, 0, 0, -1, 0, 0, 0, 0, 1, 1);
        Ask.roll("paid", x, 7, 39, -1000000, 0, 0, 0, 0, 1000000, 1);
        Ask.roll("not yet", x, 7, 38, 0, 0, 0, 0, 0, 0, 1);
        for (int i = 3; i <= 60; i++) {
            Check.due("payment " + i, i % 2 == 0 ? x.pays(0, 0, 1) : x.tally(0, 0, 0), i);
        }
        Check.due("payment 61 in coin", x.pays(0, 0, 1), -1);
        Check.due("payment 61 by tally", x.tally(0, 0, 0), -1);
        Check.due("annul a payment", x.annul(5), 61);
        Check.due("void ones count too", x.pays(0, 0, 1), -1);
        Check.due("others can be told", x.fire(0, 0), 62);
    }

    private static void tallies() {
        ChequeredCloth x = new ChequeredCloth();
        int[][] wrong = {{-1, 0, 1}, {8, 0, 1}, {0, -1, 1}, {0, 40, 1}, {0, 0, -1}, {0, 0, 10}};
        for (int[] w : wrong) {
            Check.due("tally(" + w[0] + ", " + w[1] + ", " + w[2] + ")", x.tally(w[0], w[1], w[2]), -1);
        }
        Check.due("tally of a stock not there", x.tally(2, 4, 9), 1);
        Ask.roll("not there", x, 2, 4, 0, 0, 0, 0, 0, 0, 1);
        x.cut(false, 9, 10, 2);
        Ask.roll("without a foil", x, 2, 4, 0);
        x.cut(true, 0, 13, 2);
        Ask.roll("good", x, 2, 4, -240, 0, 0, 0, 0, 240, 1);
        x.cut(false, 9, 20, 0);
        x.cut(true, 0, 20, 0);
        Ask.roll("one cut more", x, 2, 4, -241);
        x.wear(2, 8, 15);
        Ask.roll("beyond the limit", x, 2, 4, 0);
        x.wear(3, 8, 20);
        x.cut(false, 1, 13, 2);
        x.cut(false, 1, 20, 0);
        Ask.roll("another has the foil", x, 2, 4, 0);
        x.burn(false, 1);
        Ask.roll("it is burnt", x, 2, 4, -241);
        Check.due("twice", x.tally(2, 5, 9), 2);
        Ask.roll("twice", x, 2, 5, -482);
        x.as(1);
        Ask.roll("the chest is always as now", x, 2, 5, -241);
        Texts.writ(x, 0, "farm 1 blanched for all;");
        x.fire(4, 120);
        x.as(-1);
        Ask.roll("a tally is not tried by fire", x, 2, 4, 5 - 241, 0, 1, 0, 0, 241, 1);
    }

    private static void fires() {
        ChequeredCloth x = Ask.under("farm 1000 blanched for shire 0;farm 1000 for all;");
        int[][] wrong = {{-1, 0}, {40, 0}, {0, -1}, {0, 121}};
        for (int[] w : wrong) {
            Check.due("fire(" + w[0] + ", " + w[1] + ")", x.fire(w[0], w[1]), -1);
        }
        Check.due("pays", x.pays(0, 1, 239), 2);
        Check.due("pays", x.pays(1, 1, 239), 3);
        Check.due("pays", x.pays(0, 2, 239), 4);
        Check.due("fire(1, 120)", x.fire(1, 120), 5);
        Check.due("roll: floor(119.5) is lost", x.roll(0, 1, 5), 120);
        Check.due("roll: not blanched for this shire", x.roll(1, 1, 5), 239);
        Check.due("roll: of this term alone", x.roll(0, 2, 5), 239);
        Check.due("fire(1, 1)", x.fire(1, 1), 6);
        Check.due("roll: the last told; floor(0.99)", x.roll(0, 1, 5), 239);
        Check.due("fire(1, 0)", x.fire(1, 0), 7);
        Check.due("annul(6)", x.annul(6), 8);
        Check.due("roll: fire 0", x.roll(0, 1, 5), 239);
        Check.due("annul(7)", x.annul(7), 9);
        Check.due("roll: the one before again", x.roll(0, 1, 5), 120);
    }

    private static void voids() {
        ChequeredCloth x = new ChequeredCloth();
        Check.due("annul(1) of none", x.annul(1), -1);
        Check.due("pays", x.pays(0, 0, 5), 1);
        for (int act : new int[] {0, 2, -1, Integer.MIN_VALUE, Integer.MAX_VALUE}) {
            Check.due("annul(" + act + ")", x.annul(act), -1);
        }
        Check.due("annul(1)", x.annul(1), 2);
        Check.due("annul(1) again", x.annul(1), -1);
        Check.due("annul(2), which tells so", x.annul(2), -1);
        Check.due("roll", x.roll(0, 0, 0), 0);
        x.as(1);
        Check.due("roll as known at 1", x.roll(0, 0, 0), -5);
        Check.due("annul(1) as known at 1", x.annul(1), -1);
        x.as(2);
        Check.due("roll as known at 2", x.roll(0, 0, 0), 0);
        Check.due("all(0)", x.all(0), 2);
    }

    private static void as() {
        ChequeredCloth x = new ChequeredCloth();
        Check.due("as(0)", x.as(0), true);
        Check.due("as(1)", x.as(1), false);
        Check.due("as(-2)", x.as(-2), false);
        x.pays(0, 0, 5);
        Check.due("as known at 0", x.roll(0, 0, 0), 0);
        Check.due("all(1)", x.all(1), 0);
        Check.due("as(NONE)", x.as(ChequeredCloth.NONE), true);
        Check.due("all(1)", x.all(1), 1);
        Check.due("as known at the last", x.roll(0, 0, 0), -5);
        x.pays(0, 0, 5);
        Check.due("always the last one", x.roll(0, 0, 0), -10);
        Check.due("as(1)", x.as(1), true);
        x.pays(0, 0, 5);
        Check.due("as known at 1", x.roll(0, 0, 0), -5);
        Check.due("as(4)", x.as(4), false);
        Check.due("it stays at 1", x.all(1), 1);
    }

    private static void rollNone() {
        ChequeredCloth x = Ask.under("farm 1 for all;");
        int[][] wrong = {{-1, 0, 0}, {8, 0, 0}, {0, -1, 0}, {0, 40, 0}, {0, 0, -1}, {0, 0, 7},
            {Integer.MAX_VALUE, Integer.MIN_VALUE, Integer.MAX_VALUE}};
        for (int[] w : wrong) {
            Check.due("Ask.roll(" + w[0] + ", " + w[1] + ", " + w[2] + ")", x.roll(w[0], w[1], w[2]), NO_ROLL);
        }
    }

    private static void farms() {
        ChequeredCloth x = Ask.under("farm 3 for all; farm 2 shillings for shire 1 or shire 2; farm 5 - 9 for all;");
        Ask.roll("farms", x, 0, 0, 3, 0, 3, 0, 0, 0, 0);
        Ask.roll("farms", x, 1, 0, 27, 0, 27);
        Ask.roll("farms", x, 2, 39, 27 * 40, 0, 27);
        Ask.roll("farms", x, 7, 39, 3 * 40, 0, 3);
        x.pays(0, 0, 3);
        Ask.roll("quit", x, 0, 0, 0, 0, 3, 0, 0, 3, 1);
        Ask.roll("not quit", x, 0, 1, 3, 0, 3, 0, 0, 0, 0);
    }

    private static void allowances() {
        ChequeredCloth x = Ask.under("allow 7 for shire 0; allow 0 - 7 for all; farm 5 for all; allow 1 for term > 0;");
        Ask.roll("below 0", x, 0, 0, -2, 0, 5, 7, 0, 0, 1);
        Ask.roll("below 0", x, 0, 1, -5, 0, 5, 8, 0, 0, 1);
        Ask.roll("others", x, 1, 1, 9, 0, 5, 1, 0, 0, 0);
    }

    private static void pardons() {
        ChequeredCloth x = Ask.under("pardon 1 in 2 for shire 0; pardon 2 in 3 for shire 0; farm 11 for all;"
                + "pardon 1 in 1 for shire 2;");
        Ask.roll("11 less 5, 6 less 4", x, 0, 0, 2, 0, 11, 0, 9, 0, 0);
        Ask.roll("13 less 6, 7 less 4", x, 0, 1, 3, 0, 11, 0, 10, 0, 0);
        Ask.roll("not pardoned", x, 1, 0, 11, 0, 11, 0, 0);
        Ask.roll("wholly", x, 2, 0, 0, 0, 11, 0, 11, 0, 1);
        x = Ask.under("pardon 1 in 2 for all;");
        x.pays(0, 0, 9);
        Ask.roll("no pardon below 0", x, 0, 1, -9, 0, 0, 0, 0, 0, 1);
        x = Ask.under("farm 9 for term = 0; pardon 1 in 2 for paid = 0;");
        x.pays(0, 0, 4);
        Ask.roll("pardoned ahead of payments: 9 less 4, less 4", x, 0, 0, 1, 0, 9, 0, 4, 4, 0);
    }

    private static void splits() {
        ChequeredCloth x = Ask.under("farm 11 for term = 0; split 3 for term = 0;");
        Ask.roll("11: 3 and 2 stay, 3 and 3 come", x, 0, 0, 5, 6, 11, 0, 0, 0, 0);
        Ask.roll("the first came", x, 0, 1, 8, 3);
        Ask.roll("the second came", x, 0, 2, 11, 0);
        x.pays(0, 0, 5);
        Ask.roll("6 are split after payments: 2 stay", x, 0, 0, 2, 4, 11, 0, 0, 5, 0);
        x.pays(0, 0, 6);
        Ask.roll("nothing to split", x, 0, 0, 0, 0, 11, 0, 0, 11, 1);
        x = Ask.under("farm 11 for term = 0; split 3 for term = 0;");
        x.pays(0, 1, 8);
        Ask.roll("debt 0, but something is put off", x, 0, 1, 0, 3, 0, 0, 0, 8, 0);
        Ask.roll("it came", x, 0, 2, 3, 0, 0, 0, 0, 0, 0);
        x = Ask.under("farm 100 for term = 0; split 2 for term = 0; split 5 for term = 0;");
        Ask.roll("split twice: 50, then 10 and 40", x, 0, 0, 10, 90);
        Ask.roll("50 and 10 came", x, 0, 1, 70, 30);
        x = Ask.under("farm 19 for term = 0; split 20 for all;");
        Ask.roll("less than can be split", x, 0, 0, 19, 0, 19);
        x = Ask.under("farm 40 for term = 0; split 20 for term = 0;");
        Ask.roll("20 terms", x, 0, 18, 38, 2);
        Ask.roll("20 terms", x, 0, 19, 40, 0);
        x = Ask.under("farm 40 for term = 0; split 4 for paid > 5;");
        x.pays(0, 0, 5);
        Ask.roll("paid is 5", x, 0, 0, 35, 0);
        x.pays(0, 0, 1);
        Ask.roll("paid is 6", x, 0, 0, 10, 24);
    }

    private static void beyondTheLastTerm() {
        ChequeredCloth x = Ask.under("farm 100 for term = 38; split 10 for term = 38;");
        Ask.roll("at 38", x, 0, 38, 10, 90);
        Ask.roll("at 39", x, 0, 39, 20, 80, 0, 0, 0, 0, 0);
        x.pays(0, 39, 20);
        Ask.roll("never due, but put off", x, 0, 39, 0, 80, 0, 0, 0, 20, 0);
    }

    private static void coinByFire() {
        ChequeredCloth x = Ask.under("farm 100 blanched for term > 0; farm 0 - 1 blanched for shire 1;");
        for (int term = 0; term < 2; term++) {
            x.fire(term, 24);
            for (int shire = 0; shire < 2; shire++) {
                x.pays(shire, term, 15);
                x.pays(shire, term, 15);
            }
        }
        Check.due("no farm of this term was blanched", x.roll(0, 0, 5), 30);
        Check.due("each payment by itself: 15 less 1", x.roll(0, 1, 5), 28);
        Check.due("a blanched farm of nothing", x.roll(1, 0, 5), 28);
    }

    private static void momentOfDebt() {
        ChequeredCloth x = Ask.under("allow debt for shire 0; farm 10 for all; farm debt for debt = 10;"
                + " farm 1 for debt > 10; allow paid for all; allow 3 for debt = 21;");
        x.pays(1, 0, 5);
        Ask.roll("10, 20, 21, nothing", x, 0, 0, 0, 0, 21, 21, 0, 0, 1);
        Ask.roll("21 less 3, less 5 paid", x, 1, 0, 13, 0, 21, 3, 0, 5, 0);
        x = Ask.under("farm 5 for all; split 2 for debt = 5 - paid and paid > 0 or term = 1 and paid = 0;");
        x.pays(0, 0, 1);
        Ask.roll("paid is of the term", x, 0, 0, 2, 2, 5, 0, 0, 1);
        Ask.roll("paid is nothing anew", x, 0, 1, 5, 4, 5, 0, 0, 0);
    }

    private static void numbers() {
        String[][] sums = {
            {"7 - 2 - 1", "4"}, {"2 + 3 * 4", "14"}, {"(2 + 3) * 4", "20"}, {"24 / 4 / 3", "2"}, {"7 / 2 * 2", "6"},
            {"9 + (0 - 7) / 2", "5"}, {"9 + 7 / (0 - 2)", "5"}, {"9 + (0 - 7) / (0 - 2)", "12"}, {"9 + 5 / 0", "9"},
            {"9 + (0 - 5) / 0", "9"}, {"3 pounds", "720"}, {"3 shillings", "36"}, {"3 pence", "3"}, {"2 pounds / 7", "68"},
            {"min(3, 2) + max(5, 4)", "7"}, {"min(0 - 3, 2) + 4", "1"}, {"max(1 - 9, 0) + 1", "1"},
            {"99999 * 99999", "1000000000"}, {"99999 * 10000", "999990000"}, {"99999 * 99999 - 1", "999999999"},
            {"(0 - 99999) * 99999 + 99999 * 99999 + 5", "5"}, {"(0 - 99999) * 99999 * 99999 + 99999 * 99999 + 5", "5"},
            {"99999 * 99999 + 99999 * 99999", "1000000000"}, {"99999 * 99999 + 1 - 99999 * 99999 + 7", "7"},
            {"0 - 99999 * 99999 - 1 + 99999 * 99999 + 7", "7"}, {"99999 pounds * 99999 pounds", "1000000000"},
            {"min(debt + 5, term) + 3", "3"}, {"00012", "12"},
        };
        for (String[] s : sums) {
            ChequeredCloth x = Ask.under("farm " + s[0] + " for all;");
            Check.due("farm " + s[0], x.roll(0, 0, 2), Long.parseLong(s[1]));
        }
        String deep = "3";
        for (int i = 1; i <= 6; i++) {
            deep = "1 + 2 * max(3, " + deep + ")";
        }
        Check.due("six deep", Ask.under("farm " + deep + " for all;").roll(0, 0, 2), 255);
        deep = "1 + 2 * (3 + 4 * 5) = 47";
        for (int i = 1; i <= 5; i++) {
            deep = "not all or all and [" + deep + "]";
        }
        Check.due("six deep", Ask.under("farm 1 for " + deep + ";").roll(0, 0, 2), 1);
        Check.due("six deep", Ask.under("farm 1 for " + deep.replace("47", "48") + ";").roll(0, 0, 2), 0);
        ChequeredCloth x = Ask.under("farm term * 100 + year for all;");
        for (int term = 0; term < 40; term++) {
            Check.due("term and year of " + term, x.roll(3, term, 2), term * 100 + term / 2);
        }
        x = Ask.under("farm 99999 * 99999 for all; allow 1 for debt = 99999 * 99999 and term = 2;");
        Ask.roll("debt itself has no bound", x, 0, 2, 2999999999L, 0, 1000000000, 1);
        x = Ask.under("allow 99999 * 99999 for all; allow 1 for debt = 0 - 99999 * 99999 and term = 2;");
        Ask.roll("nor below", x, 0, 2, -3000000001L, 0, 0, 1000000001);
        String[][] tests = {
            {"1 < 2", "1"}, {"2 < 2", "0"}, {"2 > 1", "1"}, {"2 > 2", "0"}, {"2 = 2", "1"}, {"1 = 2", "0"},
            {"not all", "0"}, {"not not all", "1"}, {"shire 0", "1"}, {"shire 1", "0"}, {"not shire 1 and all", "1"},
            {"all or not all and not all", "1"}, {"not all and not all or all", "1"}, {"[all or all] and not all", "0"},
            {"not [all or all] or all", "1"}, {"not all or not all", "0"}, {"not 1 = 2", "1"}, {"1 + 1 = 2 * 1", "1"},
            {"0 - 1 < 0 and 0 > 0 - 1", "1"}, {"term = 0 and debt = 0 and paid = 0 and year = 0", "1"},
        };
        for (String[] t : tests) {
            x = Ask.under("farm 1 for " + t[0] + ";");
            Check.due("farm 1 for " + t[0], x.roll(0, 0, 2), Long.parseLong(t[1]));
        }
    }

    private static void writOfTerm() {
        ChequeredCloth x = new ChequeredCloth();
        Texts.writ(x, 4, "farm 4 for all;");
        Texts.writ(x, 2, "farm 2 for all;");
        Texts.writ(x, 6, "");
        Ask.roll("none in force", x, 0, 1, 0, 0, 0);
        Ask.roll("the one of 2", x, 0, 3, 4, 0, 2);
        Ask.roll("the one of 4", x, 0, 5, 12, 0, 4);
        Ask.roll("the one of 6, without statements", x, 0, 7, 12, 0, 0);
        Texts.writ(x, 4, "farm 1 for all;");
        Ask.roll("the last told of 4", x, 0, 5, 6, 0, 1);
        x.annul(4);
        Ask.roll("it is void", x, 0, 5, 12, 0, 4);
        x.annul(1);
        Ask.roll("both are", x, 0, 5, 8, 0, 2);
    }

    private static void owed() {
        ChequeredCloth x = Ask.under("farm 10 for not shire 3; allow 7 for shire 3;");
        Check.due("owed(0)", x.owed(0), 70);
        x.pays(0, 1, 50);
        Check.due("owed(1)", x.owed(1), 120);
        x.as(0);
        Check.due("owed(1) as known at 0", x.owed(1), 0);
        Check.due("owed(40)", x.owed(40), -1);
        Check.due("owed(-1)", x.owed(-1), -1);
        x = Ask.under("farm 99999 * 99999 for all;");
        Check.due("owed(39)", x.owed(39), 320000000000L);
    }

    private static void all() {
        ChequeredCloth x = Ask.under("");
        x.cut(false, 3, 0, 0);
        x.cut(false, 4, 0, 0);
        x.cut(true, 3, 0, 0);
        int[] due = {1, 1, 2, 1};
        for (int what = 0; what < 4; what++) {
            Check.due("all(" + what + ")", x.all(what), due[what]);
        }
        for (int what : new int[] {-1, 4, Integer.MIN_VALUE, Integer.MAX_VALUE}) {
            Check.due("all(" + what + ")", x.all(what), -1);
        }
    }
}
