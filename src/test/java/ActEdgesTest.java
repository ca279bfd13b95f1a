/** The boundary cases of the acts: Terms IV ahead of THE ROLL, promises 21 to 25 and 31; each sentence by itself. */
final class ActEdgesTest {
    private static final int[] NO_TERMS = {-1, 40, Integer.MIN_VALUE, Integer.MAX_VALUE};
    private static final int[] NO_SHIRES = {-1, 8, Integer.MIN_VALUE, Integer.MAX_VALUE};

    public static void main(String[] args) {
        all();
        Check.close("ActEdgesTest");
    }

    static void all() {
        twoHundred();
        sixty();
        writs();
        pays();
        tally();
        fire();
        annul();
        known();
        as();
        ofAll();
    }

    /** So many ACTS of FIRE that loses nothing. */
    private static ChequeredCloth fires(int acts) {
        ChequeredCloth x = new ChequeredCloth();
        for (int act = 1; act <= acts; act++) {
            x.fire(act % 40, 0);
        }
        return x;
    }

    private static void twoHundred() {
        Check.says("IV: ACTS, numbered from 1 on");
        ChequeredCloth x = new ChequeredCloth();
        Check.due("writ", Texts.writ(x, 0, ""), 1);
        Check.due("pays", x.pays(0, 0, 1), 2);
        Check.due("tally", x.tally(0, 0, 0), 3);
        Check.due("fire", x.fire(0, 0), 4);
        Check.due("annul", x.annul(1), 5);
        Check.due("all(0)", x.all(0), 5);
        Check.says("IV: 200 at most");
        for (int kind = 0; kind < 5; kind++) {
            x = fires(198);
            for (int act = 199; act <= 201; act++) {
                boolean can = act <= 200;
                switch (kind) {
                    case 0:
                        Check.due("writ " + act, x.writ(0), can ? act : -2);
                        break;
                    case 1:
                        Check.due("pays " + act, x.pays(0, 0, 5), can ? act : -1);
                        break;
                    case 2:
                        Check.due("tally " + act, x.tally(0, 0, 0), can ? act : -1);
                        break;
                    case 3:
                        Check.due("fire " + act, x.fire(0, 0), can ? act : -1);
                        break;
                    default:
                        Check.due("annul " + act, x.annul(act - 150), can ? act : -1);
                }
                Check.due("all(0)", x.all(0), Math.min(act, 200));
            }
            Check.due("as(200)", x.as(200), true);
            Check.due("as(201)", x.as(201), false);
            Check.due("payments went off", x.roll(0, 0, 5), kind == 1 ? 10 : 0);
        }
    }

    private static void sixty() {
        Check.says("IV: a PAYMENT: 60 at most, in COIN or by a TALLY");
        for (int coins = 0; coins <= 60; coins += 20) {
            ChequeredCloth x = new ChequeredCloth();
            for (int i = 1; i <= 60; i++) {
                Check.due("payment " + i, i <= coins ? x.pays(0, 0, 1) : x.tally(i % 8, i % 40, i % 10), i);
            }
            Check.due("pays as the 61st", x.pays(1, 1, 1), -1);
            Check.due("tally as the 61st", x.tally(1, 1, 1), -1);
            Check.due("all(0)", x.all(0), 60);
            Check.due("roll stays", x.roll(1, 1, 5), 0);
            Check.due("roll stays", x.roll(0, 0, 5), coins);
            Check.due("fire is no payment", x.fire(0, 0), 61);
            Check.due("nor is a writ", x.writ(0), 62);
        }
        Check.says("IV: 60 at most, VOID ones too");
        ChequeredCloth x = new ChequeredCloth();
        for (int i = 1; i <= 59; i++) {
            x.pays(0, 0, 1);
        }
        for (int i = 1; i <= 59; i++) {
            Check.due("annul(" + i + ")", x.annul(i), 59 + i);
        }
        Check.due("pays as the 60th", x.pays(0, 0, 1), 119);
        Check.due("annul it", x.annul(119), 120);
        Check.due("pays as the 61st", x.pays(0, 0, 1), -1);
        Check.due("tally as the 61st", x.tally(0, 0, 0), -1);
        Check.due("nothing went off", x.roll(0, 0, 5), 0);
    }

    private static void writs() {
        Check.says("IV: a WRIT, in force from a TERM (0 .. 39) on, in place of the one before");
        ChequeredCloth x = new ChequeredCloth();
        Texts.writ(x, 0, "farm 1 for all; farm 10 for term = 5;");
        Texts.writ(x, 5, "farm 3 for all;");
        Check.due("farms of 4", x.roll(0, 4, 2), 1);
        Check.due("farms of 5", x.roll(0, 5, 2), 3);
        Check.due("farms of 39", x.roll(0, 39, 2), 3);
        Check.says("IV: the WRIT of a TERM: the one with the greatest TERM not above it");
        x = new ChequeredCloth();
        Texts.writ(x, 39, "split 2 for all;");
        Texts.writ(x, 7, "split 2 for all; split 2 for all;");
        Texts.writ(x, 8, "split 2 for all; split 2 for all; split 2 for all;");
        Texts.writ(x, 1, "");
        int[] due = {-1, 0, 0, 0, 0, 0, 0, 2, 3};
        for (int term = 0; term < due.length; term++) {
            Check.due("force(" + term + ")", x.force(term), due[term]);
        }
        Check.due("force(38)", x.force(38), 3);
        Check.due("force(39)", x.force(39), 1);
        Check.says("IV: of like ones the last told");
        Texts.writ(x, 8, "split 2 for all;");
        Check.due("force(8)", x.force(8), 1);
        Check.due("force(7)", x.force(7), 2);
        Texts.writ(x, 7, "");
        Check.due("force(7)", x.force(7), 0);
        Check.due("force(8): a later TERM goes first, though told before", x.force(8), 1);
        Check.says("IV: the WRIT of a TERM: of those known");
        x.annul(5);
        Check.due("force(8): the one told before", x.force(8), 3);
        x.annul(3);
        Check.due("force(8): that of 7", x.force(8), 0);
        x.as(4);
        Check.due("force(8) as known at 4", x.force(8), 3);
        x.as(2);
        Check.due("force(8) as known at 2", x.force(8), 2);
        Check.due("force(6) as known at 2", x.force(6), -1);
    }

    private static void pays() {
        Check.says("21: a PAYMENT of a SHIRE (0 .. 7)");
        ChequeredCloth x = new ChequeredCloth();
        for (int shire : NO_SHIRES) {
            Check.due("pays(" + shire + ", 0, 1)", x.pays(shire, 0, 1), -1);
        }
        Check.due("no act", x.all(0), 0);
        Check.due("pays(0, 0, 1)", x.pays(0, 0, 1), 1);
        Check.due("pays(7, 0, 2)", x.pays(7, 0, 2), 2);
        Check.due("roll(0, 0, 5)", x.roll(0, 0, 5), 1);
        Check.due("roll(7, 0, 5)", x.roll(7, 0, 5), 2);
        Check.says("21: in a TERM");
        for (int term : NO_TERMS) {
            Check.due("pays(0, " + term + ", 1)", x.pays(0, term, 1), -1);
        }
        Check.due("no act", x.all(0), 2);
        Check.due("pays(3, 39, 4)", x.pays(3, 39, 4), 3);
        Check.due("roll(3, 38, 5)", x.roll(3, 38, 5), 0);
        Check.due("roll(3, 39, 5)", x.roll(3, 39, 5), 4);
        Check.says("21: in pence, in COIN (1 .. 1000000)");
        for (int pence : new int[] {0, -1, 1000001, Integer.MIN_VALUE, Integer.MAX_VALUE}) {
            Check.due("pays(5, 5, " + pence + ")", x.pays(5, 5, pence), -1);
        }
        Check.due("no act", x.all(0), 3);
        Check.due("pays(5, 5, 1)", x.pays(5, 5, 1), 4);
        Check.due("pays(5, 6, 1000000)", x.pays(5, 6, 1000000), 5);
        Check.due("roll(5, 5, 5)", x.roll(5, 5, 5), 1);
        Check.due("roll(5, 6, 5)", x.roll(5, 6, 5), 1000000);
    }

    private static void tally() {
        Check.says("22: a PAYMENT by a TALLY: likewise (SHIRE, TERM)");
        ChequeredCloth x = new ChequeredCloth();
        for (int shire : NO_SHIRES) {
            Check.due("tally(" + shire + ", 0, 0)", x.tally(shire, 0, 0), -1);
        }
        for (int term : NO_TERMS) {
            Check.due("tally(0, " + term + ", 0)", x.tally(0, term, 0), -1);
        }
        Check.due("no act", x.all(0), 0);
        Check.due("tally(0, 0, 0)", x.tally(0, 0, 0), 1);
        Check.due("tally(7, 39, 0)", x.tally(7, 39, 0), 2);
        x.cut(false, 0, 0, 1);
        x.cut(true, 9, 0, 1);
        Check.due("roll(0, 0, 5)", x.roll(0, 0, 5), 12);
        Check.due("roll(7, 39, 5)", x.roll(7, 39, 5), 12);
        Check.says("22: a STOCK 0 .. 9, there or not");
        for (int stock : new int[] {-1, 10, Integer.MIN_VALUE, Integer.MAX_VALUE}) {
            Check.due("tally(0, 0, " + stock + ")", x.tally(0, 0, stock), -1);
        }
        Check.due("no act", x.all(0), 2);
        Check.due("tally(1, 1, 9)", x.tally(1, 1, 9), 3);
        Check.due("not there: nothing went off", x.roll(1, 1, 5), 0);
        x.cut(false, 9, 0, 1);
        x.cut(false, 9, 100, 0);
        x.cut(true, 0, 0, 1);
        x.cut(true, 0, 100, 0);
        Check.due("there now", x.roll(1, 1, 5), 13);
    }

    private static void fire() {
        Check.says("23: FIRE: in a TERM");
        ChequeredCloth x = new ChequeredCloth();
        for (int term : NO_TERMS) {
            Check.due("fire(" + term + ", 1)", x.fire(term, 1), -1);
        }
        Check.due("no act", x.all(0), 0);
        Check.due("fire(0, 1)", x.fire(0, 1), 1);
        Check.due("fire(39, 1)", x.fire(39, 1), 2);
        Check.says("23: so many pence of each 240 are lost (0 .. 120)");
        for (int lost : new int[] {-1, 121, Integer.MIN_VALUE, Integer.MAX_VALUE}) {
            Check.due("fire(5, " + lost + ")", x.fire(5, lost), -1);
        }
        Check.due("no act", x.all(0), 2);
        Check.due("fire(5, 0)", x.fire(5, 0), 3);
        Check.due("fire(6, 120)", x.fire(6, 120), 4);
        Texts.writ(x, 0, "farm 1 blanched for all;");
        x.pays(0, 5, 240);
        x.pays(0, 6, 240);
        Check.due("240 by a fire of 0", x.roll(0, 5, 5), 240);
        Check.due("240 by a fire of 120", x.roll(0, 6, 5), 120);
        Check.says("IV: FIRE of a TERM: the last told for it; 0 without");
        x = new ChequeredCloth();
        Texts.writ(x, 0, "farm 1 blanched for all;");
        for (int term = 1; term < 4; term++) {
            x.pays(0, term, 240);
        }
        Check.due("without", x.roll(0, 2, 5), 240);
        ChequeredCloth y = new ChequeredCloth();
        y.pays(0, 2, 240);
        Texts.writ(y, 0, "farm 1 blanched for all;");
        Check.due("without, though the first ACT has 240", y.roll(0, 2, 5), 240);
        x.fire(1, 7);
        x.fire(3, 8);
        Check.due("without, though its neighbours have some", x.roll(0, 2, 5), 240);
        x.fire(2, 100);
        Check.due("by 100", x.roll(0, 2, 5), 140);
        x.fire(2, 20);
        Check.due("by the last told, 20", x.roll(0, 2, 5), 220);
        Check.due("annul", x.annul(8), 9);
        Check.due("by 100 again", x.roll(0, 2, 5), 140);
        x.annul(7);
        Check.due("without again", x.roll(0, 2, 5), 240);
        Check.due("that of 1", x.roll(0, 1, 5), 233);
        Check.due("that of 3", x.roll(0, 3, 5), 232);
    }

    private static void annul() {
        Check.says("24: VOID: its ACT; NONE when there is none such");
        ChequeredCloth x = new ChequeredCloth();
        Check.due("annul(1) of none", x.annul(1), -1);
        x.pays(0, 0, 5);
        x.pays(0, 0, 7);
        for (int act : new int[] {0, 3, -1, 200, 201, Integer.MIN_VALUE, Integer.MAX_VALUE}) {
            Check.due("annul(" + act + ")", x.annul(act), -1);
        }
        Check.due("no act", x.all(0), 2);
        Check.due("roll stays", x.roll(0, 0, 5), 12);
        Check.due("annul(1), the first", x.annul(1), 3);
        Check.due("roll", x.roll(0, 0, 5), 7);
        Check.due("annul(2), the last but the void", x.annul(2), 4);
        Check.due("roll", x.roll(0, 0, 5), 0);
        Check.says("24: NONE when it is VOID");
        Check.due("annul(1) again", x.annul(1), -1);
        Check.due("annul(2) again", x.annul(2), -1);
        Check.due("no act", x.all(0), 4);
        Check.says("24: NONE when it tells so");
        Check.due("annul(3)", x.annul(3), -1);
        Check.due("annul(4)", x.annul(4), -1);
        Check.due("no act", x.all(0), 4);
        Check.due("roll stays", x.roll(0, 0, 5), 0);
        Check.says("24: each other kind can be VOID");
        x = new ChequeredCloth();
        Texts.writ(x, 0, "farm 240 blanched for all;");
        x.pays(0, 0, 240);
        x.fire(0, 24);
        x.tally(0, 0, 0);
        x.cut(false, 0, 0, 0);
        x.cut(true, 0, 0, 0);
        Check.due("roll", x.roll(0, 0, 0), 23);
        Check.due("annul the fire", x.annul(3), 5);
        Check.due("roll", x.roll(0, 0, 0), -1);
        Check.due("annul the tally", x.annul(4), 6);
        Check.due("roll", x.roll(0, 0, 0), 0);
        Check.due("annul the writ", x.annul(1), 7);
        Check.due("roll", x.roll(0, 0, 0), -240);
        Check.due("annul the coin", x.annul(2), 8);
        Check.due("roll", x.roll(0, 0, 0), 0);
        Check.says("24: NONE when there are 200");
        x = fires(199);
        x.pays(0, 0, 9);
        Check.due("annul(200)", x.annul(200), -1);
        Check.due("roll stays", x.roll(0, 0, 5), 9);
        x = fires(198);
        x.pays(0, 0, 9);
        Check.due("annul(199) as act 200", x.annul(199), 200);
        Check.due("roll", x.roll(0, 0, 5), 0);
    }

    private static void known() {
        Check.says("IV: as known at ACT n: ACTS up to n");
        ChequeredCloth x = new ChequeredCloth();
        x.pays(0, 0, 1);
        x.pays(0, 0, 10);
        x.pays(0, 0, 100);
        int[] due = {0, 1, 11, 111};
        for (int act = 0; act <= 3; act++) {
            x.as(act);
            Check.due("roll as known at " + act, x.roll(0, 0, 5), due[act]);
        }
        Check.says("IV: as known at ACT n: that are not VOID by n");
        x.annul(2);
        x.annul(1);
        int[] dueThen = {0, 1, 11, 111, 101, 100};
        for (int act = 0; act <= 5; act++) {
            x.as(act);
            Check.due("roll as known at " + act, x.roll(0, 0, 5), dueThen[act]);
        }
    }

    private static void as() {
        Check.says("25: as known at an ACT (0: none)");
        ChequeredCloth x = new ChequeredCloth();
        Check.due("as(0) ahead of any", x.as(0), true);
        x.pays(0, 0, 5);
        Check.due("roll as known at none", x.roll(0, 0, 0), 0);
        Check.due("owed", x.owed(0), 0);
        Check.due("all(1)", x.all(1), 0);
        Check.due("as(1)", x.as(1), true);
        Check.due("roll as known at 1", x.roll(0, 0, 0), -5);
        Check.says("25: from now on all is told so");
        x.pays(0, 0, 5);
        Check.due("roll as known at 1", x.roll(0, 0, 0), -5);
        Check.due("slip as known at 1", x.slip(0, 0, 0), 1);
        Check.due("slip as known at 1", x.slip(0, 0, -5), 0);
        Texts.writ(x, 0, "farm 50 for all;");
        Check.due("force as known at 1", x.force(0), -1);
        Check.due("owed as known at 1", x.owed(0), 0);
        Check.due("all(1)", x.all(1), 1);
        Check.says("25: NONE: always the last one");
        Check.due("as(NONE)", x.as(ChequeredCloth.NONE), true);
        Check.due("roll", x.roll(0, 0, 0), 40);
        Check.due("all(1)", x.all(1), 3);
        x.pays(0, 0, 1);
        Check.due("roll", x.roll(0, 0, 0), 39);
        Check.due("all(1)", x.all(1), 4);
        Check.due("owed", x.owed(0), 7 * 50 + 39);
        Check.due("as(4), the last one", x.as(4), true);
        x.pays(0, 0, 1);
        Check.due("roll as known at 4", x.roll(0, 0, 0), 39);
        Check.says("25: false when there is none such");
        for (int act : new int[] {6, -2, 200, 201, Integer.MIN_VALUE, Integer.MAX_VALUE}) {
            Check.due("as(" + act + ")", x.as(act), false);
            Check.due("all(1) stays", x.all(1), 4);
            Check.due("roll stays", x.roll(0, 0, 0), 39);
        }
        Check.due("as(5)", x.as(5), true);
        Check.due("roll as known at 5", x.roll(0, 0, 0), 38);
        Check.due("as(NONE) of none", new ChequeredCloth().as(-1), true);
        Check.due("as(1) of none", new ChequeredCloth().as(1), false);
    }

    private static void ofAll() {
        Check.says("31: 0 ACTS, 1 the ACT as known at which all is told, 2 STOCKS, 3 FOILS");
        ChequeredCloth x = new ChequeredCloth();
        for (int what = 0; what < 4; what++) {
            Check.due("all(" + what + ") of a new one", x.all(what), 0);
        }
        for (int k = 0; k < 10; k++) {
            x.cut(false, k, 0, 0);
            x.cut(true, k, 0, 0);
        }
        Check.due("all(2)", x.all(2), 10);
        Check.due("all(3)", x.all(3), 10);
        x.burn(false, 9);
        x.burn(true, 0);
        x.burn(true, 9);
        Check.due("all(2)", x.all(2), 9);
        Check.due("all(3)", x.all(3), 8);
        x.fire(0, 0);
        x.fire(0, 0);
        x.annul(1);
        Check.due("all(0): void ones too", x.all(0), 3);
        Check.due("all(1): the last one", x.all(1), 3);
        x.as(2);
        Check.due("all(0): all that were told", x.all(0), 3);
        Check.due("all(1)", x.all(1), 2);
        Check.says("31: NONE for others");
        for (int what : new int[] {-1, 4, Integer.MIN_VALUE, Integer.MAX_VALUE}) {
            Check.due("all(" + what + ")", x.all(what), -1);
        }
    }
}
