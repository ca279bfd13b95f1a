import java.util.ArrayList;
import java.util.List;
import java.util.TreeSet;

/**
 * The grammar of WRITS as the document writes it, as a table, and nothing that knows how to read it but
 * "with this no WRIT goes on": all the ways in which a text could go on are kept at once. Texts by dice,
 * most of them going on as a WRIT can, must have the FAULT that the table tells.
 */
final class GrammarTest {
    /** The tokens 1 .. 5 are the NUMBERS of a pardon (first, second), a split, a shire and a PART. */
    private static final String[] RULES = {
        "WHOLE STATEMENT ;",
        "STATEMENT farm SUM WHEN", "STATEMENT farm SUM blanched WHEN", "STATEMENT allow SUM WHEN",
        "STATEMENT pardon 1 in 2 WHEN", "STATEMENT split 3 WHEN",
        "WHEN for TEST",
        "TEST BOTH", "TEST TEST or BOTH",
        "BOTH FACT", "BOTH BOTH and FACT",
        "FACT not FACT", "FACT [ TEST ]", "FACT all", "FACT shire 4", "FACT SUM < SUM", "FACT SUM > SUM", "FACT SUM = SUM",
        "SUM PRODUCT", "SUM SUM + PRODUCT", "SUM SUM - PRODUCT",
        "PRODUCT PART", "PRODUCT PRODUCT * PART", "PRODUCT PRODUCT / PART",
        "PART 5", "PART 5 pence", "PART 5 shillings", "PART 5 pounds", "PART term", "PART year", "PART debt", "PART paid",
        "PART ( SUM )", "PART min ( SUM , SUM )", "PART max ( SUM , SUM )",
    };
    private static final List<String[]> TABLE = table();
    private static final String[] TOKENS = {"farm", "allow", "pardon", "split", "blanched", "for", "in", "or", "and",
        "not", "all", "shire", "pence", "shillings", "pounds", "term", "year", "debt", "paid", "min", "max", "(", ")",
        "[", "]", "<", ">", "=", "+", "-", "*", "/", ",", ";", "1", "2", "3", "4", "5"};
    private static final String[] STRANGE = {"x", "far", "farms", "A", "!", "\t", "\u0000", "\u00ff", ".", "0", "7", "8",
        "999", "1000", "99999", "100000", "000000", "00001", "1234567", "none", "shires", "{", "}", "_"};

    /** A rule, how much of it has been read, and where it began. */
    private record Way(int rule, int dot, int from) {
        String next() {
            return dot + 1 < TABLE.get(rule).length ? TABLE.get(rule)[dot + 1] : "";
        }
    }

    private final String text;
    private int at = 0;
    private int stop = 0;
    private boolean joined = false;
    private int fault = 0;
    private int faultAt = -1;
    private int statements = 0;
    private int firstOfPardon = 0;
    private final List<List<Way>> ways = new ArrayList<>();
    private final StringBuilder open = new StringBuilder();

    private GrammarTest(String text) {
        this.text = text;
    }

    public static void main(String[] args) {
        int texts = args.length > 1 ? Integer.parseInt(args[1]) : 12000;
        Dice dice = new Dice(args.length > 2 ? Long.parseLong(args[2]) : 14);
        int[] found = new int[5];
        ChequeredCloth x = new ChequeredCloth();
        for (int i = 0; i < texts; i++) {
            String told = textBy(dice);
            GrammarTest reading = new GrammarTest(told);
            reading.read();
            found[reading.fault]++;
            // each text takes 36 calls at most, and an object is used for 512
            x = i % 14 == 0 ? new ChequeredCloth() : x;
            int acts = x.all(0);
            String shown = told.replace("\n", "\\n");
            Check.due("writ of \"" + shown + "\"", Texts.writ(x, 3, told), reading.fault == 0 ? acts + 1 : -1);
            Check.due("fault(0) of \"" + shown + "\"", x.fault(0), reading.fault);
            Check.due("fault(1) of \"" + shown + "\"", x.fault(1), reading.faultAt);
            if (reading.fault == 0) {
                Check.due("force(3) by \"" + shown + "\"", x.force(3), reading.statements);
            }
        }
        System.out.println("faults 0 .. 4: " + java.util.Arrays.toString(found));
        for (int fault = 0; fault < found.length; fault++) {
            Check.due("fault " + fault + " came often enough", found[fault] > texts / 100, true);
        }
        Check.close("GrammarTest");
    }

    private static List<String[]> table() {
        List<String[]> table = new ArrayList<>();
        for (String rule : RULES) {
            table.add(rule.split(" "));
        }
        return table;
    }

    // ---- reading

    private void read() {
        begin();
        next();
        while (fault == 0 && at < text.length()) {
            if (statements == 24 && ways.size() == 1) {
                fail(4, at);
                return;
            }
            String token = kindOf(text.substring(at, stop));
            if (token.isEmpty()) {
                fail(1, at);
                return;
            }
            if (checkNumber(token) && checkOpen(token)) {
                step(token);
                next();
            }
        }
        if (fault == 0 && ways.size() > 1) {
            fail(1, at);
        }
    }

    private void fail(int which, int place) {
        fault = which;
        faultAt = place;
    }

    private void next() {
        boolean named = stop > at && isNamed(text.charAt(at));
        int end = stop;
        at = stop;
        while (at < text.length() && (text.charAt(at) == 32 || text.charAt(at) == 10)) {
            at++;
        }
        stop = at < text.length() ? at + 1 : at;
        while (stop < text.length() && isNamed(text.charAt(at))
                && isDigit(text.charAt(at)) == isDigit(text.charAt(stop)) && isNamed(text.charAt(stop))) {
            stop++;
        }
        joined = named && at == end && at < text.length() && isNamed(text.charAt(at));
    }

    private static boolean isDigit(char c) {
        return c >= '0' && c <= '9';
    }

    private static boolean isNamed(char c) {
        return isDigit(c) || c >= 'a' && c <= 'z';
    }

    /** What of the table the word could be here; nothing, if no WRIT goes on with it. */
    private String kindOf(String word) {
        for (Way way : ways.get(ways.size() - 1)) {
            String asked = way.next();
            if (!joined && isTerminal(asked) && (asked.equals(word) && !isDigit(word.charAt(0))
                    || isDigit(asked.charAt(0)) && isDigit(word.charAt(0)))) {
                return asked;
            }
        }
        return "";
    }

    private boolean checkNumber(String token) {
        if (!isDigit(token.charAt(0))) {
            return true;
        }
        if (stop - at > 5) {
            fail(1, at + 5);
            return false;
        }
        int number = Integer.parseInt(text.substring(at, stop));
        int kind = token.charAt(0) - '0';
        int least = new int[] {0, 1, firstOfPardon, 2, 0, 0}[kind];
        int most = new int[] {0, 999, 999, 20, 7, 99999}[kind];
        firstOfPardon = number;
        if (number < least || number > most) {
            fail(2, at);
            return false;
        }
        return true;
    }

    /** A "not" ends with its FACT, behind which come only: and, or, ] and ; . */
    private boolean checkOpen(String token) {
        if (token.equals("(") || token.equals("[") || token.equals("not")) {
            if (open.length() == 6) {
                fail(3, at);
                return false;
            }
            open.append(token.charAt(0));
        }
        if (token.equals("and") || token.equals("or") || token.equals("]") || token.equals(";")) {
            while (open.length() > 0 && open.charAt(open.length() - 1) == 'n') {
                open.setLength(open.length() - 1);
            }
        }
        if (token.equals("]") || token.equals(")")) {
            open.setLength(open.length() - 1);
        }
        return true;
    }

    // ---- all the ways to go on

    private static boolean isTerminal(String symbol) {
        return !symbol.isEmpty() && !Character.isUpperCase(symbol.charAt(0));
    }

    private void begin() {
        ways.clear();
        ways.add(new ArrayList<>());
        add(new Way(0, 0, 0));
    }

    private void step(String token) {
        List<Way> before = ways.get(ways.size() - 1);
        ways.add(new ArrayList<>());
        for (Way way : before) {
            if (way.next().equals(token)) {
                add(new Way(way.rule, way.dot + 1, way.from));
            }
        }
        if (token.equals(";")) {
            statements++;
            begin();
        }
    }

    private void add(Way way) {
        List<Way> here = ways.get(ways.size() - 1);
        if (here.contains(way)) {
            return;
        }
        here.add(way);
        String next = way.next();
        if (next.isEmpty()) {
            String whole = TABLE.get(way.rule)[0];
            List<Way> there = ways.get(way.from);
            for (int i = 0; i < there.size(); i++) {
                if (there.get(i).next().equals(whole)) {
                    add(new Way(there.get(i).rule, there.get(i).dot + 1, there.get(i).from));
                }
            }
        } else if (!isTerminal(next)) {
            for (int rule = 0; rule < TABLE.size(); rule++) {
                if (TABLE.get(rule)[0].equals(next)) {
                    add(new Way(rule, 0, ways.size() - 1));
                }
            }
        }
    }

    // ---- texts by dice

    private static String textBy(Dice dice) {
        GrammarTest way = new GrammarTest("");
        way.begin();
        StringBuilder out = new StringBuilder();
        boolean brief = dice.in(15);
        int most = brief ? 600 : dice.from(1, dice.in(4) ? 300 : 60);
        int strange = dice.in(2) ? 0 : dice.from(3, 60);
        for (int i = 0; out.length() < most; i++) {
            String token = brief ? "split 2 for all ;".split(" ")[i % 5] : way.anyToken(dice);
            boolean odd = strange > 0 && dice.in(strange);
            String word = odd ? oddWord(dice) : isDigit(token.charAt(0)) && !brief ? numberBy(dice, token.charAt(0) - '0') : token;
            boolean close = out.length() == 0 || !isNamed(out.charAt(out.length() - 1)) || !isNamed(word.charAt(0));
            out.append(dice.in(close ? 3 : 150) == close ? dice.in(9) ? "\n" : " " : "");
            out.append(word);
            if (odd && dice.in(2)) {
                continue;
            }
            way.step(brief && i % 5 == 1 ? "3" : token);
        }
        String text = out.substring(0, Math.min(out.length(), 600));
        return dice.in(3) ? text.substring(0, text.lastIndexOf(';') + 1) : text;
    }

    private static String oddWord(Dice dice) {
        return dice.in(2) ? TOKENS[dice.of(TOKENS.length)] : STRANGE[dice.of(STRANGE.length)];
    }

    private static String numberBy(Dice dice, int kind) {
        int[] most = {0, 999, 999, 20, 7, 99999};
        return dice.in(12) ? STRANGE[dice.from(9, 18)] : kind == 2 ? "" + dice.from(900, 999)
                : kind == 1 ? "" + dice.from(1, 900) : "" + dice.from(kind == 3 ? 2 : 0, dice.in(3) ? most[kind] : 5);
    }

    /** One of those with which a WRIT goes on. */
    private String anyToken(Dice dice) {
        TreeSet<String> could = new TreeSet<>();
        for (Way way : ways.get(ways.size() - 1)) {
            if (isTerminal(way.next())) {
                could.add(way.next());
            }
        }
        List<String> list = new ArrayList<>(could);
        return list.get(dice.of(list.size()));
    }
}
