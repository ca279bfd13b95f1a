/** WRITS as texts: told to an object by the tape, or made by dice, whole or with a fault. */
final class Texts {
    private Texts() {
    }

    /** Puts a text on the tape of an object, behind what is there. */
    static void feed(ChequeredCloth x, String text) {
        int before = 0;
        for (int i = 0; i < text.length(); i += 20) {
            int after = x.feed(word(text, i), word(text, i + 4), word(text, i + 8), word(text, i + 12), word(text, i + 16));
            if (i == 0) {
                before = after - 20;
            }
        }
        if (!text.isEmpty()) {
            x.end(before + text.length());
        }
    }

    static int writ(ChequeredCloth x, int term, String text) {
        feed(x, text);
        return x.writ(term);
    }

    static int word(String text, int from) {
        int bytes = 0;
        for (int i = from; i < from + 4; i++) {
            bytes = bytes << 8 | (i < text.length() ? text.charAt(i) & 255 : ' ');
        }
        return bytes;
    }

    static String writ(Dice dice, int most) {
        StringBuilder out = new StringBuilder();
        int count = dice.in(12) ? dice.from(20, 28) : dice.from(0, most);
        boolean brief = count > 10;
        for (int i = 0; i < count; i++) {
            out.append(brief ? "split 2 for all" : statement(dice)).append(dice.in(3) ? " ; " : ";");
        }
        return out.toString();
    }

    static String marred(Dice dice, String text) {
        StringBuilder out = new StringBuilder(text);
        int times = dice.from(1, 2);
        for (int i = 0; i < times && out.length() > 0; i++) {
            int at = dice.of(out.length());
            String signs = " ;()[]+-*/<>=,0159abfmnoprst\n\t!A\u00e9";
            char sign = signs.charAt(dice.of(signs.length()));
            switch (dice.of(5)) {
                case 0:
                    out.setCharAt(at, sign);
                    break;
                case 1:
                    out.insert(at, sign);
                    break;
                case 2:
                    out.deleteCharAt(at);
                    break;
                case 3:
                    out.setLength(at);
                    break;
                default:
                    out.insert(at, piece(dice));
            }
        }
        return out.toString();
    }

    private static String piece(Dice dice) {
        String[] pieces = {"not ", "[", "(", " or ", " and ", "min(", "max (", ")", "]", " for ", " blanched ", "100000",
            "99999", " all ", " shire ", "pounds", " pence ", " shillings ", "farm ", "allow ", "pardon ", "split ", "in ",
            ";", "term", "year", "debt", "paid", "((((((((", "[[[[[[[[", "not not not not not not not ", "00001", "000001"};
        return pieces[dice.of(pieces.length)];
    }

    private static String gap(Dice dice) {
        return dice.in(4) ? "\n" : dice.in(4) ? "  " : " ";
    }

    private static String maybe(Dice dice) {
        return dice.in(3) ? gap(dice) : "";
    }

    private static String statement(Dice dice) {
        String when = gap(dice) + "for " + test(dice, dice.from(0, 2));
        switch (dice.of(7)) {
            case 0:
            case 1:
                return "farm " + sum(dice, dice.from(0, 2)) + when;
            case 2:
                return "farm " + sum(dice, dice.from(0, 1)) + gap(dice) + "blanched" + when;
            case 3:
            case 4:
                return "allow " + sum(dice, dice.from(0, 2)) + when;
            case 5: {
                int second = dice.in(3) ? dice.from(1, 999) : dice.from(1, 9);
                int first = dice.from(1, second);
                if (dice.in(12)) {
                    return "pardon " + dice.from(0, 1000) + " in " + dice.from(0, 1100) + when;
                }
                return "pardon " + first + " in " + second + when;
            }
            default:
                return "split " + (dice.in(9) ? dice.of(24) : dice.in(3) ? dice.from(2, 20) : dice.from(2, 4)) + when;
        }
    }

    private static String test(Dice dice, int depth) {
        String out = fact(dice, depth);
        for (int i = dice.of(4) - 1; i > 0; i--) {
            out += gap(dice) + (dice.in(2) ? "or" : "and") + gap(dice) + fact(dice, depth);
        }
        return out;
    }

    private static String fact(Dice dice, int depth) {
        int kind = dice.of(depth > 0 ? 8 : 6);
        if (kind < 2) {
            return "all";
        }
        if (kind < 4) {
            return "shire " + dice.of(dice.in(20) ? 10 : dice.in(2) ? 8 : 3);
        }
        if (kind < 6) {
            return sum(dice, depth) + maybe(dice) + "<>=".charAt(dice.of(3)) + maybe(dice) + sum(dice, depth);
        }
        return kind == 6 ? "not " + fact(dice, depth - 1) : "[" + maybe(dice) + test(dice, depth - 1) + "]";
    }

    private static String sum(Dice dice, int depth) {
        String out = product(dice, depth);
        for (int i = dice.of(4) - 1; i > 0; i--) {
            out += maybe(dice) + "+-".charAt(dice.of(2)) + maybe(dice) + product(dice, depth);
        }
        return out;
    }

    private static String product(Dice dice, int depth) {
        String out = part(dice, depth);
        for (int i = dice.of(5) - 2; i > 0; i--) {
            out += maybe(dice) + "*/".charAt(dice.of(2)) + maybe(dice) + part(dice, depth);
        }
        return out;
    }

    private static String part(Dice dice, int depth) {
        String[] names = {"term", "year", "debt", "paid"};
        int kind = dice.of(depth > 0 ? 10 : 7);
        if (kind < 4) {
            String unit = dice.of(3) > 0 ? "" : gap(dice) + (dice.in(3) ? "pence" : dice.in(2) ? "shillings" : "pounds");
            return (dice.in(5) ? dice.of(100000) : dice.of(30)) + unit;
        }
        if (kind < 7) {
            return names[dice.of(4)];
        }
        if (kind < 8) {
            return "(" + sum(dice, depth - 1) + maybe(dice) + ")";
        }
        return (dice.in(2) ? "min" : "max") + maybe(dice) + "(" + sum(dice, depth - 1) + "," + sum(dice, depth - 1) + ")";
    }
}
