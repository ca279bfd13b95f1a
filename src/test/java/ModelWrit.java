import java.util.ArrayList;
import java.util.List;

/** A text, cut into words first, then read into trees; the first fault ends the reading. */
final class ModelWrit {
    interface Tree {
        long at(int shire, int term, long debt, long paid);
    }

    record Duty(String word, Tree sum, boolean blanched, int first, int second, Tree test) {
    }

    private record Word(String text, int at, boolean joined) {
    }

    private static final class Fault extends RuntimeException {
        private static final long serialVersionUID = 1L;
        final int which;
        final int at;

        Fault(int which, int at) {
            this.which = which;
            this.at = at;
        }
    }

    final List<Duty> statements = new ArrayList<>();
    int fault = 0;
    int faultAt = -1;
    private final List<Word> words = new ArrayList<>();
    private int now = 0;

    ModelWrit(String text) {
        cut(text);
        try {
            while (!peek().text.isEmpty()) {
                if (statements.size() == 24) {
                    throw new Fault(4, peek().at);
                }
                statements.add(duty());
                need(";");
            }
        } catch (Fault found) {
            fault = found.which;
            faultAt = found.at;
        }
    }

    private void cut(String text) {
        java.util.regex.Matcher m = java.util.regex.Pattern
                .compile("[a-z]+|[0-9]+|[^ \n]", java.util.regex.Pattern.DOTALL).matcher(text);
        int end = -1;
        boolean open = false;
        while (m.find()) {
            boolean named = m.group().matches("[a-z]+|[0-9]+");
            words.add(new Word(m.group(), m.start(), named && open && m.start() == end));
            end = m.end();
            open = named;
        }
        words.add(new Word("", text.length(), false));
    }

    private Word peek() {
        return words.get(now);
    }

    private boolean is(String text) {
        return !peek().joined && peek().text.equals(text);
    }

    private boolean take(String text) {
        if (is(text)) {
            now++;
            return true;
        }
        return false;
    }

    private void need(String text) {
        if (!take(text)) {
            throw new Fault(1, peek().at);
        }
    }

    private boolean atNumber() {
        return !peek().joined && peek().text.matches("[0-9]+");
    }

    private int number(int least, int most) {
        Word w = peek();
        if (!atNumber()) {
            throw new Fault(1, w.at);
        }
        if (w.text.length() > 5) {
            throw new Fault(1, w.at + 5);
        }
        int n = Integer.parseInt(w.text);
        if (n < least || n > most) {
            throw new Fault(2, w.at);
        }
        now++;
        return n;
    }

    private Duty duty() {
        Tree sum = null;
        boolean blanched = false;
        int first = 0;
        int second = 0;
        String word = peek().text;
        if (take("farm")) {
            sum = sum(0);
            blanched = take("blanched");
        } else if (take("allow")) {
            sum = sum(0);
        } else if (take("pardon")) {
            first = number(1, 999);
            need("in");
            second = number(first, 999);
        } else if (take("split")) {
            first = number(2, 20);
        } else {
            throw new Fault(1, peek().at);
        }
        need("for");
        return new Duty(word, sum, blanched, first, second, test(0));
    }

    /** One more ( [ not is open: the seventh is a fault. */
    private int deeper(int open, int at) {
        if (open == 6) {
            throw new Fault(3, at);
        }
        return open + 1;
    }

    private Tree test(int open) {
        Tree left = both(open);
        while (take("or")) {
            Tree a = left;
            Tree b = both(open);
            left = (s, t, d, p) -> a.at(s, t, d, p) == 1 || b.at(s, t, d, p) == 1 ? 1 : 0;
        }
        return left;
    }

    private Tree both(int open) {
        Tree left = fact(open);
        while (take("and")) {
            Tree a = left;
            Tree b = fact(open);
            left = (s, t, d, p) -> a.at(s, t, d, p) == 1 && b.at(s, t, d, p) == 1 ? 1 : 0;
        }
        return left;
    }

    private Tree fact(int open) {
        int at = peek().at;
        if (take("not")) {
            Tree a = fact(deeper(open, at));
            return (s, t, d, p) -> 1 - a.at(s, t, d, p);
        }
        if (take("[")) {
            Tree a = test(deeper(open, at));
            need("]");
            return a;
        }
        if (take("all")) {
            return (s, t, d, p) -> 1;
        }
        if (take("shire")) {
            int n = number(0, 7);
            return (s, t, d, p) -> s == n ? 1 : 0;
        }
        Tree a = sum(open);
        char sign = is("<") || is(">") || is("=") ? peek().text.charAt(0) : 0;
        if (sign == 0) {
            throw new Fault(1, peek().at);
        }
        now++;
        Tree b = sum(open);
        return (s, t, d, p) -> {
            int c = Long.compare(a.at(s, t, d, p), b.at(s, t, d, p));
            return (sign == '<' ? c < 0 : sign == '>' ? c > 0 : c == 0) ? 1 : 0;
        };
    }

    private static long held(long n) {
        return n > 1000000000 ? 1000000000 : n < -1000000000 ? -1000000000 : n;
    }

    private Tree sum(int open) {
        Tree left = product(open);
        while (is("+") || is("-")) {
            boolean more = is("+");
            now++;
            Tree a = left;
            Tree b = product(open);
            left = (s, t, d, p) -> held(a.at(s, t, d, p) + (more ? 1 : -1) * b.at(s, t, d, p));
        }
        return left;
    }

    private Tree product(int open) {
        Tree left = part(open);
        while (is("*") || is("/")) {
            boolean times = is("*");
            now++;
            Tree a = left;
            Tree b = part(open);
            left = (s, t, d, p) -> {
                long x = a.at(s, t, d, p);
                long y = b.at(s, t, d, p);
                return times ? held(x * y) : y == 0 ? 0 : Math.floorDiv(x, y);
            };
        }
        return left;
    }

    private Tree part(int open) {
        int at = peek().at;
        if (atNumber()) {
            int n = number(0, 99999);
            int worth = take("pounds") ? 240 : take("shillings") ? 12 : take("pence") ? 1 : 1;
            return (s, t, d, p) -> (long) n * worth;
        }
        if (take("(")) {
            Tree a = sum(deeper(open, at));
            need(")");
            return a;
        }
        if (is("min") || is("max")) {
            boolean least = is("min");
            now++;
            int bracket = peek().at;
            need("(");
            int within = deeper(open, bracket);
            Tree a = sum(within);
            need(",");
            Tree b = sum(within);
            need(")");
            return (s, t, d, p) -> least ? Math.min(a.at(s, t, d, p), b.at(s, t, d, p))
                    : Math.max(a.at(s, t, d, p), b.at(s, t, d, p));
        }
        if (take("term")) {
            return (s, t, d, p) -> t;
        }
        if (take("year")) {
            return (s, t, d, p) -> t / 2;
        }
        if (take("debt")) {
            return (s, t, d, p) -> held(d);
        }
        if (take("paid")) {
            return (s, t, d, p) -> held(p);
        }
        throw new Fault(1, at);
    }
}
