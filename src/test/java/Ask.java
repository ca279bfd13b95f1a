/** What several tests ask in the same way. */
final class Ask {
    private Ask() {
    }

    /** The text is a WRIT of so many STATEMENTS. */
    static void good(String text, int statements) {
        ChequeredCloth x = new ChequeredCloth();
        Check.due("writ of \"" + text + "\"", Texts.writ(x, 7, text), 1);
        Check.due("force(7) by \"" + text + "\"", x.force(7), statements);
        Check.due("fault(0) of \"" + text + "\"", x.fault(0), 0);
        Check.due("fault(1) of \"" + text + "\"", x.fault(1), -1);
        Check.due("all(0) after \"" + text + "\"", x.all(0), 1);
    }

    /** The text, but for the mark ^ in it, has a FAULT at that mark. */
    static void bad(int fault, String marked) {
        int place = marked.indexOf('^');
        String text = marked.substring(0, place) + marked.substring(place + 1);
        ChequeredCloth x = new ChequeredCloth();
        Check.due("writ of \"" + text + "\"", Texts.writ(x, 7, text), -1);
        Check.due("fault(0) of \"" + text + "\"", x.fault(0), fault);
        Check.due("fault(1) of \"" + text + "\"", x.fault(1), place);
        Check.due("force(7) after \"" + text + "\"", x.force(7), -1);
        Check.due("all(0) after \"" + text + "\"", x.all(0), 0);
    }

    /** A new object with one WRIT, from TERM 0 on. */
    static ChequeredCloth under(String text) {
        ChequeredCloth x = new ChequeredCloth();
        Check.due("writ of \"" + text + "\"", Texts.writ(x, 0, text), 1);
        return x;
    }

    /** Of a SHIRE at the end of a TERM: debt, put off, farms, allowances, pardons, payments, QUIT. */
    static void roll(String when, ChequeredCloth x, int shire, int term, long... entries) {
        for (int what = 0; what < entries.length; what++) {
            Check.due(when + ": roll(" + shire + ", " + term + ", " + what + ")",
                    x.roll(shire, term, what), entries[what]);
        }
    }
}
