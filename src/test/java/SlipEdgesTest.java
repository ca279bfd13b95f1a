/** The boundary cases of a SLIP and of what is known since when: Terms IV, promises 28 to 30; each sentence by itself. */
final class SlipEdgesTest {
    private static final int[] NO_TERMS = {-1, 40, Integer.MIN_VALUE, Integer.MAX_VALUE};
    private static final int[] NO_SHIRES = {-1, 8, Integer.MIN_VALUE, Integer.MAX_VALUE};

    public static void main(String[] args) {
        all();
        Check.close("SlipEdgesTest");
    }

    static void all() {
        differs();
        leftOut();
        asKnown();
        movedPayment();
        leastTerm();
        none();
        noSuch();
        moved();
        since();
        sinceWhatIsKnown();
    }

    /** 100 in TERM 0, doubled in each TERM up to 7: one can see when something was paid. */
    private static ChequeredCloth doubled() {
        return Ask.under("farm 100 for term = 0; farm debt for term > 0 and term < 8;");
    }

    private static void slip(ChequeredCloth x, int shire, int term, long told, int act, int moved) {
        Check.due("slip(" + shire + ", " + term + ", " + told + ")", x.slip(shire, term, told), act);
        Check.due("moved()", x.moved(), moved);
    }

    private static void differs() {
        Check.says("IV: SLIP: a told debt that differs; 28: 0 when it doesn't differ");
        ChequeredCloth x = new ChequeredCloth();
        slip(x, 0, 0, 0, 0, -1);
        slip(x, 0, 0, 1, -1, -1);
        slip(x, 0, 0, -1, -1, -1);
        x.pays(0, 0, 5);
        slip(x, 0, 0, -5, 0, -1);
        slip(x, 0, 0, -4, -1, -1);
        slip(x, 0, 0, -6, -1, -1);
        slip(x, 0, 0, 0, 1, -1);
        x = Ask.under("farm 100 blanched for all; farm 0 for all;");
        x.fire(0, 0);
        slip(x, 0, 0, 100, 0, -1);
        Check.says("IV: SLIP: at the end of a TERM");
        x = Ask.under("farm 10 for all;");
        x.pays(0, 1, 4);
        slip(x, 0, 0, 10, 0, -1);
        slip(x, 0, 0, 6, 2, 0);
        slip(x, 0, 1, 16, 0, -1);
        slip(x, 0, 1, 20, 2, -1);
        slip(x, 0, 39, 396, 0, -1);
        slip(x, 0, 39, 400, 2, -1);
        x = Ask.under("farm 4 for term = 0; split 2 for term = 0;");
        slip(x, 0, 0, 2, 0, -1);
        slip(x, 0, 0, 4, -1, -1);
        slip(x, 0, 1, 4, 0, -1);
    }

    private static void leftOut() {
        Check.says("IV: SLIP: the first ACT (WRIT, PAYMENT, FIRE) so that without it it tells that debt");
        ChequeredCloth x = Ask.under("farm 1000 blanched for all;");
        x.fire(0, 24);
        x.pays(0, 0, 240);
        x.tally(0, 0, 0);
        x.cut(false, 0, 0, 1);
        x.cut(true, 0, 0, 1);
        slip(x, 0, 0, 1000 - 216 - 12, 0, -1);
        slip(x, 0, 0, -240 - 12, 1, -1);
        slip(x, 0, 0, 1000 - 240 - 12, 2, -1);
        slip(x, 0, 0, 1000 - 12, 3, -1);
        slip(x, 0, 0, 1000 - 216, 4, -1);
        x.pays(0, 0, 240);
        x.pays(0, 0, 240);
        slip(x, 0, 0, 1000 - 2 * 216 - 12, 3, -1);
        Check.says("IV: SLIP: without it, all others as known");
        x = Ask.under("farm 10 for all;");
        Texts.writ(x, 2, "farm 7 for all;");
        Texts.writ(x, 4, "farm 1 for all;");
        slip(x, 0, 5, 36, 0, -1);
        // without the one of 2 that of 0 is in force up to 3; without that of 4 the one of 2 goes on
        slip(x, 0, 5, 42, 2, -1);
        slip(x, 0, 5, 48, 3, -1);
        slip(x, 0, 5, 16, 1, -1);
        x = Ask.under("farm 1000 blanched for all;");
        x.pays(0, 0, 240);
        x.fire(0, 10);
        x.fire(0, 20);
        slip(x, 0, 0, 780, 0, -1);
        slip(x, 0, 0, 770, 4, -1);
        slip(x, 0, 0, 760, -1, -1);
        Check.says("IV: SLIP: without it, in TERMS further on");
        x = Ask.under("farm 1 for all;");
        Texts.writ(x, 1, "farm 1 for term < 3; farm 5 for term > 2;");
        slip(x, 0, 3, 8, 0, -1);
        slip(x, 0, 2, 3, 0, -1);
        slip(x, 0, 3, 4, 2, -1);
        slip(x, 0, 39, 40, 2, -1);
        Check.says("IV: SLIP: without it the debt is the same for a TERM, but not what is put off");
        for (int n = 2; n <= 20; n++) {
            // as much is paid as else would be put off: at the end of TERM 1 both tell the same debt
            int part = 200 / n;
            int stays = 200 - part * (n - 1);
            x = Ask.under("farm 200 for term = 1; split " + n + " for debt = 200 and term = 1;");
            x.pays(0, 1, 200 - stays);
            slip(x, 0, 1, stays, 0, -1);
            slip(x, 0, n, stays, 0, -1);
            slip(x, 0, n, 200, 2, -1);
            slip(x, 0, 2, stays + part, 2, -1);
        }
        Check.says("IV: SLIP: what was put off ahead of the ACT comes all the same");
        x = Ask.under("farm 90 for term = 0; split 3 for term = 0; farm debt for term = 2;");
        x.pays(0, 1, 5);
        slip(x, 0, 1, 55, 0, -1);
        slip(x, 0, 1, 60, 2, -1);
        slip(x, 0, 2, 170, 0, -1);
        slip(x, 0, 2, 180, 2, -1);
        slip(x, 0, 2, 175, 2, 2);
        // of 200 ten come in each TERM from 6 to 24
        x = Ask.under("farm 200 for term = 5; split 20 for term = 5; farm debt for term = 20;");
        x.pays(0, 9, 5);
        for (int term = 9; term < 20; term++) {
            slip(x, 0, term, 10 * (term - 4) - 5, 0, -1);
            slip(x, 0, term, 10 * (term - 4), 2, -1);
        }
        slip(x, 0, 30, 2 * 160 + 40 - 10, 0, -1);
        slip(x, 0, 30, 2 * 160 + 40, 2, -1);
        slip(x, 0, 30, 2 * 160 + 40 - 5, 2, 20);
        Check.says("IV: SLIP: an ACT that changes nothing is none");
        x = new ChequeredCloth();
        x.pays(1, 0, 5);
        x.pays(0, 1, 5);
        x.fire(0, 9);
        x.pays(0, 0, 5);
        slip(x, 0, 0, 0, 4, -1);
        slip(x, 1, 0, 0, 1, -1);
        slip(x, 0, 1, -5, 2, -1);
    }

    private static void asKnown() {
        Check.says("IV: SLIP: the first ACT known");
        ChequeredCloth x = new ChequeredCloth();
        x.pays(0, 0, 5);
        x.pays(0, 0, 5);
        x.annul(1);
        slip(x, 0, 0, 0, 2, -1);
        slip(x, 0, 0, -10, -1, -1);
        x.as(2);
        slip(x, 0, 0, -5, 1, -1);
        slip(x, 0, 0, 0, -1, -1);
        x.as(1);
        slip(x, 0, 0, -5, 0, -1);
        slip(x, 0, 0, 0, 1, -1);
        x.as(0);
        slip(x, 0, 0, 0, 0, -1);
        slip(x, 0, 0, -5, -1, -1);
        Check.says("IV: SLIP: the first PAYMENT known");
        x = doubled();
        x.pays(0, 1, 10);
        x.pays(0, 2, 10);
        x.annul(2);
        slip(x, 0, 4, 1600 - 20, 3, 3);
        slip(x, 0, 4, 1600 - 80, 3, 1);
        x.as(3);
        slip(x, 0, 4, 1600 - 40 - 20, 2, 3);
        x.as(2);
        slip(x, 0, 4, 1600 - 20, 2, 3);
        x.as(1);
        slip(x, 0, 4, 1600 - 20, -1, -1);
    }

    private static void movedPayment() {
        Check.says("IV: SLIP: else a PAYMENT, had it been in another TERM");
        ChequeredCloth x = doubled();
        x.pays(0, 2, 10);
        slip(x, 0, 4, 1560, 0, -1);
        slip(x, 0, 4, 1440, 2, 0);
        slip(x, 0, 4, 1520, 2, 1);
        slip(x, 0, 4, 1580, 2, 3);
        slip(x, 0, 4, 1590, 2, 4);
        slip(x, 0, 4, 1600, 2, -1);
        Check.says("IV: SLIP: a PAYMENT that was in a later TERM");
        x = doubled();
        x.pays(0, 39, 10);
        slip(x, 0, 1, 200, 0, -1);
        slip(x, 0, 1, 190, 2, 1);
        slip(x, 0, 1, 180, 2, 0);
        Check.says("IV: SLIP: by TALLY, and by FIRE of the other TERM");
        x = Ask.under("farm 1000 blanched for all;");
        x.fire(1, 120);
        x.fire(2, 60);
        x.pays(0, 0, 240);
        x.tally(0, 0, 0);
        slip(x, 0, 2, 3000 - 120, 4, 1);
        slip(x, 0, 2, 3000 - 180, 4, 2);
        slip(x, 0, 2, 3000 - 240, 0, -1);
        x.cut(false, 0, 0, 2);
        x.cut(true, 0, 0, 2);
        slip(x, 0, 0, 1000 - 480, 0, -1);
        slip(x, 0, 0, 1000 - 240, 4, -1);
        slip(x, 0, 2, 3000 - 240 - 120, 4, 1);
        Check.says("IV: SLIP: the first PAYMENT of that SHIRE");
        x = doubled();
        x.pays(1, 2, 10);
        x.tally(0, 2, 0);
        x.pays(0, 2, 10);
        x.pays(0, 2, 10);
        slip(x, 0, 4, 1600 - 40 - 20, 4, 3);
        slip(x, 1, 4, 1600 - 20, 2, 3);
        slip(x, 2, 4, 1600 - 20, -1, -1);
        x = doubled();
        x.pays(0, 2, 5);
        x.pays(0, 2, 10);
        // 2 moved to 1 and 3 moved to 0: each by itself
        slip(x, 0, 4, 1600 - 60 - 20, 2, 1);
        slip(x, 0, 4, 1600 - 60 - 60, 2, 0);
        slip(x, 0, 4, 1600 - 60 - 120, 3, 0);
        slip(x, 0, 4, 1600 - 60 - 40, 3, 1);
        x = new ChequeredCloth();
        x.pays(0, 2, 10);
        Texts.writ(x, 0, "farm 100 for term = 0; farm debt for term > 0 and term < 8;");
        slip(x, 0, 4, 1600 - 20, 1, 3);
        Check.says("IV: SLIP: first what is left out, else what is moved");
        x = Ask.under("farm 20 for all;");
        x.pays(0, 5, 30);
        x.pays(0, 1, 20);
        slip(x, 0, 2, 60 - 50, 2, 0);
        slip(x, 0, 5, 120 - 30, 3, -1);
        slip(x, 0, 0, 20 - 30, 2, 0);
        // 3 moved to 0 tells 0, too, but the writ left out goes first
        slip(x, 0, 0, 20 - 20, 1, -1);
        x = Ask.under("farm 20 for all; farm 1 for shire 0;");
        x.pays(0, 5, 30);
        x.pays(0, 1, 20);
        slip(x, 0, 0, 21 - 20, 3, 0);
    }

    private static void leastTerm() {
        Check.says("IV: SLIP: the least other TERM");
        ChequeredCloth x = Ask.under("farm 1000 blanched for term = 1 or term = 4 or term = 6;");
        x.fire(1, 120);
        x.fire(4, 120);
        x.fire(6, 120);
        x.pays(0, 3, 240);
        slip(x, 0, 6, 3000 - 120, 5, 1);
        x.annul(2);
        slip(x, 0, 6, 3000 - 120, 5, 4);
        x.annul(3);
        slip(x, 0, 6, 3000 - 120, 5, 6);
        x.annul(4);
        slip(x, 0, 6, 3000 - 120, -1, -1);
        Check.says("IV: SLIP: the least other TERM of it: 0 .. 39");
        x = Ask.under("farm 1000 blanched for term = 0 or term = 39;");
        x.fire(39, 120);
        x.pays(0, 20, 240);
        slip(x, 0, 39, 2000 - 240, 0, -1);
        slip(x, 0, 39, 2000 - 120, 3, 39);
        slip(x, 0, 38, 1000, 3, -1);
        x.fire(0, 120);
        slip(x, 0, 39, 2000 - 120, 3, 0);
        x = Ask.under("farm 1000 blanched for all;");
        x.fire(0, 120);
        x.pays(0, 0, 240);
        slip(x, 0, 39, 40000 - 120, 0, -1);
        slip(x, 0, 39, 40000 - 240, 2, -1);
        x.pays(0, 0, 2);
        slip(x, 0, 39, 40000 - 120 - 2, 4, 1);
        Check.says("IV: SLIP: its own TERM is none");
        x = Ask.under("farm 1000 for all;");
        x.pays(0, 0, 7);
        x.pays(0, 1, 8);
        slip(x, 0, 0, 1000 - 7 - 8, 3, 0);
        slip(x, 0, 1, 2000 - 7 - 8, 0, -1);
        slip(x, 0, 1, 2000 - 7 - 7, -1, -1);
    }

    private static void none() {
        Check.says("28: -1 when there is none");
        ChequeredCloth x = Ask.under("farm 10 for all;");
        x.pays(0, 0, 4);
        for (long told : new long[] {5, 7, 11, -5, Long.MAX_VALUE, Long.MIN_VALUE, 6 + (1L << 32)}) {
            slip(x, 0, 0, told, -1, -1);
        }
        slip(x, 0, 0, 6, 0, -1);
        slip(x, 0, 0, 10, 2, -1);
        slip(x, 0, 0, -4, 1, -1);
    }

    private static void noSuch() {
        Check.says("28: -2 when there is no such SHIRE, TERM");
        ChequeredCloth x = Ask.under("farm 10 for all;");
        for (int shire : NO_SHIRES) {
            Check.due("slip(" + shire + ", 0, 10)", x.slip(shire, 0, 10), -2);
        }
        for (int term : NO_TERMS) {
            Check.due("slip(0, " + term + ", 10)", x.slip(0, term, 10), -2);
        }
        Check.due("slip(8, 40, 10)", x.slip(8, 40, 10), -2);
        slip(x, 0, 0, 10, 0, -1);
        slip(x, 7, 39, 400, 0, -1);
        slip(x, 7, 39, 0, 1, -1);
    }

    private static void moved() {
        Check.says("29: NONE ahead of any");
        Check.due("moved()", new ChequeredCloth().moved(), -1);
        Check.says("29: the TERM to which the PAYMENT would go");
        ChequeredCloth x = doubled();
        x.pays(0, 2, 10);
        slip(x, 0, 4, 1580, 2, 3);
        Check.due("moved() again", x.moved(), 3);
        Check.says("29: of the latest slip() that was not -2");
        Check.due("slip(8, 0, 0)", x.slip(8, 0, 0), -2);
        Check.due("moved() stays", x.moved(), 3);
        Check.due("slip(0, 40, 0)", x.slip(0, 40, 0), -2);
        Check.due("moved() stays", x.moved(), 3);
        x.pays(1, 1, 1);
        x.as(0);
        Check.due("moved() stays, whatever is known", x.moved(), 3);
        x.as(-1);
        slip(x, 0, 4, 1520, 2, 1);
        Check.says("29: NONE when it was another answer");
        slip(x, 0, 4, 1580, 2, 3);
        slip(x, 0, 4, 1560, 0, -1);
        slip(x, 0, 4, 1580, 2, 3);
        slip(x, 0, 4, 3, -1, -1);
        Check.says("29: NONE when it was an ACT that is left out");
        slip(x, 0, 4, 1580, 2, 3);
        slip(x, 0, 4, 1600, 2, -1);
        Check.due("slip(-1, 0, 0)", x.slip(-1, 0, 0), -2);
        Check.due("moved() stays", x.moved(), -1);
    }

    private static void since() {
        Check.says("30: the least ACT so that as known at each from that one up to the last one the debt is the same");
        ChequeredCloth x = new ChequeredCloth();
        Check.due("since(0, 0) of none", x.since(0, 0), 0);
        x.fire(0, 5);
        Check.due("never another", x.since(0, 0), 0);
        x.pays(0, 3, 5);
        Check.due("ahead of it", x.since(0, 2), 0);
        Check.due("at it", x.since(0, 3), 2);
        Check.due("behind it", x.since(0, 39), 2);
        Check.due("another SHIRE", x.since(1, 39), 0);
        x.fire(0, 6);
        Check.due("the same since", x.since(0, 39), 2);
        x.pays(0, 3, 1);
        Check.due("the last one", x.since(0, 39), 4);
        x.annul(4);
        Check.due("the void: as it was before, but not in between", x.since(0, 39), 5);
        x.annul(2);
        Check.due("as ahead of all", x.since(0, 39), 6);
        x.annul(1);
        Check.due("the same since", x.since(0, 39), 6);
        Check.due("ahead of it all", x.since(0, 2), 0);
        x = new ChequeredCloth();
        Texts.writ(x, 0, "farm 5 for all;");
        Texts.writ(x, 0, "farm 2 for all; farm 3 for all;");
        Texts.writ(x, 6, "farm 6 for all;");
        Check.due("another writ, the same debt", x.since(0, 5), 1);
        Check.due("another debt", x.since(0, 6), 3);
        Check.says("30: NONE when there are none such");
        for (int shire : NO_SHIRES) {
            Check.due("since(" + shire + ", 0)", x.since(shire, 0), -1);
        }
        for (int term : NO_TERMS) {
            Check.due("since(0, " + term + ")", x.since(0, term), -1);
        }
        Check.due("since(0, 0)", x.since(0, 0), 1);
        Check.due("since(7, 39)", x.since(7, 39), 3);
        Check.says("30: of one SHIRE after another");
        x = Ask.under("farm 10 for all;");
        for (int shire = 0; shire < 8; shire++) {
            x.pays(shire, shire, 1);
            x.pays(shire, shire, 1);
        }
        for (int shire = 7; shire >= 0; shire--) {
            Check.due("since(" + shire + ", 39)", x.since(shire, 39), 2 * shire + 3);
            Check.due("since(" + shire + ", " + shire + ")", x.since(shire, shire), 2 * shire + 3);
            Check.due("slip", x.slip(7 - shire, 39, 399), 2 * (7 - shire) + 2);
        }
        Check.says("30: of 200 ACTS");
        x = new ChequeredCloth();
        x.pays(0, 0, 1);
        for (int act = 2; act <= 199; act++) {
            x.fire(0, act % 121);
        }
        Check.due("since the first", x.since(0, 0), 1);
        x.pays(0, 0, 1);
        Check.due("since the last", x.since(0, 0), 200);
    }

    private static void sinceWhatIsKnown() {
        Check.says("30: up to the last one, whatever all is told as known at");
        ChequeredCloth x = new ChequeredCloth();
        x.pays(0, 0, 1);
        x.pays(0, 0, 1);
        x.fire(0, 1);
        for (int act = 0; act <= 3; act++) {
            x.as(act);
            Check.due("since(0, 0) as known at " + act, x.since(0, 0), 2);
            Check.due("roll as known at " + act + " stays", x.roll(0, 0, 5), Math.min(act, 2));
        }
        Check.says("30: the debt as the chest is now");
        x = new ChequeredCloth();
        x.tally(0, 0, 0);
        x.fire(0, 0);
        Check.due("not good", x.since(0, 0), 0);
        x.cut(false, 0, 0, 0);
        x.cut(true, 0, 0, 0);
        Check.due("good", x.since(0, 0), 1);
        x.burn(true, 0);
        Check.due("not good any more", x.since(0, 0), 0);
    }
}
