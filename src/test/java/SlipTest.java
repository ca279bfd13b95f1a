/** Promises 28 to 30: the slip, where its payment would go, and since when a debt is the same. */
final class SlipTest {
    public static void main(String[] args) {
        leftOut();
        moved();
        movedLaterAndEarlier();
        firstOfSeveral();
        leftOutFirst();
        asKnown();
        ofTallies();
        ofNoVoidOnes();
        ofTwoHundred();
        since();
        Check.close("SlipTest");
    }

    private static void slip(ChequeredCloth x, int shire, int term, long told, int act, int moved) {
        Check.due("slip(" + shire + ", " + term + ", " + told + ")", x.slip(shire, term, told), act);
        Check.due("moved()", x.moved(), moved);
    }

    private static void leftOut() {
        ChequeredCloth x = new ChequeredCloth();
        Texts.writ(x, 0, "farm 1000 blanched for all;");
        Texts.writ(x, 3, "farm 500 for all;");
        x.pays(0, 1, 480);
        x.fire(1, 10);
        x.pays(1, 1, 7);
        slip(x, 0, 1, 1540, 0, -1);
        slip(x, 0, 1, 1520, 4, -1);
        slip(x, 0, 1, 2000, 3, -1);
        slip(x, 0, 1, -480, 1, -1);
        slip(x, 0, 3, 3540, 2, -1);
        slip(x, 0, 1, 1541, -1, -1);
        int[][] none = {{-1, 0}, {8, 0}, {0, -1}, {0, 40}};
        slip(x, 0, 1, 1520, 4, -1);
        for (int[] n : none) {
            Check.due("slip(" + n[0] + ", " + n[1] + ", 0)", x.slip(n[0], n[1], 0), -2);
        }
        slip(x, 0, 1, Long.MAX_VALUE, -1, -1);
        slip(x, 0, 1, Long.MIN_VALUE, -1, -1);
        x = new ChequeredCloth();
        Texts.writ(x, 0, "farm 1 for all;");
        Texts.writ(x, 1, "farm 1 for term < 3; farm 5 for term > 2;");
        slip(x, 0, 3, 8, 0, -1);
        slip(x, 0, 3, 4, 2, -1);
        slip(x, 0, 3, 7, 1, -1);
        // without the payment the debt of term 0 is the same, but as much is put off
        x = new ChequeredCloth();
        Texts.writ(x, 0, "farm 10 for term = 0; split 2 for debt = 10 and term = 0;");
        x.pays(0, 0, 5);
        slip(x, 0, 0, 5, 0, -1);
        slip(x, 0, 1, 5, 0, -1);
        slip(x, 0, 1, 10, 2, -1);
    }

    /** The debt doubles from one TERM to the next: one can see when something was paid. */
    private static ChequeredCloth doubled() {
        ChequeredCloth x = new ChequeredCloth();
        Texts.writ(x, 0, "farm 100 for term = 0; farm debt for term > 0 and term < 8;");
        return x;
    }

    private static void moved() {
        ChequeredCloth x = doubled();
        x.pays(0, 2, 10);
        slip(x, 0, 4, 1560, 0, -1);
        slip(x, 0, 4, 1440, 2, 0);
        slip(x, 0, 4, 1520, 2, 1);
        slip(x, 0, 4, 1580, 2, 3);
        slip(x, 0, 4, 1590, 2, 4);
        slip(x, 0, 4, 1600, 2, -1);
        slip(x, 0, 4, 1595, -1, -1);
        slip(x, 0, 4, 1580, 2, 3);
        Check.due("slip(8, 0, 0)", x.slip(8, 0, 0), -2);
        Check.due("moved() after -2", x.moved(), 3);
    }

    private static void movedLaterAndEarlier() {
        ChequeredCloth x = doubled();
        x.pays(0, 9, 10);
        slip(x, 0, 2, 400, 0, -1);
        slip(x, 0, 2, 390, 2, 2);
        slip(x, 0, 2, 360, 2, 0);
        slip(x, 0, 9, 12800 - 20, 2, 6);
        slip(x, 0, 9, 12800 - 10, 0, -1);
        slip(x, 0, 39, 12800, 2, -1);
        x = doubled();
        x.pays(0, 10, 10);
        slip(x, 0, 11, 12800 - 5, -1, -1);
        slip(x, 0, 12, 12800 - 20, 2, 6);
    }

    private static void firstOfSeveral() {
        ChequeredCloth x = doubled();
        x.pays(1, 3, 10);
        x.pays(0, 3, 10);
        x.pays(0, 3, 10);
        slip(x, 0, 4, 1570, 3, 4);
        slip(x, 0, 4, 1580, 3, -1);
        slip(x, 1, 4, 1590, 2, 4);
        x = new ChequeredCloth();
        Texts.writ(x, 0, "farm 100 blanched for term = 1 or term = 4 or term = 6;");
        x.fire(1, 120);
        x.fire(4, 120);
        x.pays(0, 2, 10);
        slip(x, 0, 6, 295, 4, 1);
    }

    private static void leftOutFirst() {
        ChequeredCloth x = new ChequeredCloth();
        Texts.writ(x, 0, "farm 20 for shire 0;");
        x.pays(0, 5, 30);
        x.pays(0, 1, 20);
        // the first moved to term 1 tells the same as leaving out the second act afterwards
        slip(x, 0, 5, 120 - 30, 3, -1);
        slip(x, 0, 5, 120 - 20, 2, -1);
        slip(x, 0, 2, 60 - 20 - 30, 2, 0);
    }

    private static void asKnown() {
        ChequeredCloth x = new ChequeredCloth();
        x.pays(0, 0, 5);
        x.pays(0, 0, 7);
        x.annul(1);
        slip(x, 0, 0, -7, 0, -1);
        slip(x, 0, 0, 0, 2, -1);
        slip(x, 0, 0, -12, -1, -1);
        x.as(2);
        slip(x, 0, 0, -12, 0, -1);
        slip(x, 0, 0, -7, 1, -1);
        slip(x, 0, 0, -5, 2, -1);
        x.as(1);
        slip(x, 0, 0, 0, 1, -1);
        x.as(0);
        slip(x, 0, 0, 0, 0, -1);
        slip(x, 0, 0, -5, -1, -1);
    }

    private static void ofTallies() {
        ChequeredCloth x = doubled();
        x.cut(false, 4, 10, 1);
        x.tally(0, 2, 4);
        slip(x, 0, 3, 800, 0, -1);
        slip(x, 0, 3, 776, -1, -1);
        x.cut(true, 4, 10, 1);
        slip(x, 0, 3, 776, 0, -1);
        slip(x, 0, 3, 800, 2, -1);
        slip(x, 0, 3, 788, 2, 3);
    }

    private static void ofNoVoidOnes() {
        ChequeredCloth x = doubled();
        x.pays(0, 2, 10);
        x.pays(0, 3, 10);
        x.annul(2);
        slip(x, 0, 4, 1600 - 20 - 40, -1, -1);
        slip(x, 0, 4, 1600 - 40, 3, 2);
        slip(x, 0, 4, 1600 - 10, 3, 4);
        Check.due("pays", x.pays(0, 20, 20), 5);
        Check.due("annul", x.annul(5), 6);
        slip(x, 0, 4, 1600 - 20 - 20, 3, 2);
        slip(x, 0, 4, 1600 - 20 - 40, -1, -1);
    }

    /** The last acts that there can be are like others. */
    private static void ofTwoHundred() {
        ChequeredCloth x = doubled();
        for (int act = 2; act <= 196; act++) {
            Check.due("fire " + act, x.fire(act % 40, act % 121), act);
        }
        Check.due("pays", x.pays(0, 2, 10), 197);
        Check.due("pays", x.pays(0, 1, 10), 198);
        Check.due("annul", x.annul(197), 199);
        Check.due("pays", x.pays(0, 4, 1), 200);
        Check.due("pays", x.pays(0, 4, 1), -1);
        Check.due("annul(200)", x.annul(200), -1);
        Check.due("roll", x.roll(0, 4, 0), 1600 - 80 - 1);
        Check.due("owed", x.owed(4), 1600 * 8 - 80 - 1);
        slip(x, 0, 4, 1600 - 80, 200, -1);
        slip(x, 0, 4, 1600 - 1, 198, -1);
        slip(x, 0, 4, 1600 - 80 - 2, 200, 3);
        Check.due("since", x.since(0, 4), 200);
        Check.due("since", x.since(0, 3), 199);
        x.as(199);
        Check.due("roll as known at 199", x.roll(0, 4, 0), 1600 - 80);
        x.as(198);
        Check.due("roll as known at 198", x.roll(0, 4, 0), 1600 - 80 - 40);
    }

    private static void since() {
        ChequeredCloth x = new ChequeredCloth();
        Check.due("since of none", x.since(0, 0), 0);
        x.pays(1, 0, 1);
        Check.due("another shire's", x.since(0, 0), 0);
        Texts.writ(x, 0, "farm 10 for all;");
        Check.due("the writ", x.since(0, 0), 2);
        x.pays(0, 5, 4);
        Check.due("a later term", x.since(0, 4), 2);
        Check.due("the term", x.since(0, 5), 3);
        Check.due("the last term", x.since(0, 39), 3);
        x.pays(0, 2, 6);
        x.annul(4);
        Check.due("since the void", x.since(0, 2), 5);
        Check.due("ahead of it", x.since(0, 1), 2);
        x.fire(0, 9);
        Texts.writ(x, 0, "farm 10 for all;");
        Check.due("alike since", x.since(0, 2), 5);
        x.as(0);
        Check.due("up to the last one, whatever is known", x.since(0, 2), 5);
        Check.due("and it stays so", x.roll(0, 2, 0), 0);
        int[][] none = {{-1, 0}, {8, 0}, {0, -1}, {0, 40}};
        for (int[] n : none) {
            Check.due("since(" + n[0] + ", " + n[1] + ")", x.since(n[0], n[1]), -1);
        }
    }
}
