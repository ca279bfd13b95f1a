import java.io.IOException;
import java.io.OutputStream;
import java.nio.charset.StandardCharsets;
import java.nio.file.Files;
import java.nio.file.Path;
import java.util.ArrayList;
import java.util.HashMap;
import java.util.List;
import java.util.Map;
import java.util.concurrent.ExecutionException;
import java.util.concurrent.ExecutorService;
import java.util.concurrent.Executors;
import java.util.concurrent.Future;
import java.util.regex.Matcher;
import java.util.regex.Pattern;
import javax.tools.ToolProvider;

/**
 * Tests the tests: breaks the class in one place after another (a bound one off, a sign turned, a line left out)
 * and tells which breaks no test by sentences sees. It takes minutes, so .ci/run leaves it out. What stays unseen
 * should be what no answer can show: guards of what can't come, and what is only there for speed.
 */
final class Breaks {
    private static final int MOST_SECONDS = 20;
    private static final Map<String, String[]> TURNS = turns();

    private record Break(int at, String from, String to) {
    }

    private Breaks() {
    }

    /** The source and where all is compiled to; or "see", to run the tests by sentences once. */
    public static void main(String[] args) throws IOException, InterruptedException, ExecutionException {
        if (args.length == 1) {
            see();
            return;
        }
        String source = Files.readString(Path.of(args[0]), StandardCharsets.US_ASCII);
        List<Break> breaks = breaks(source);
        Path room = Files.createTempDirectory("breaks");
        ExecutorService workers = Executors.newFixedThreadPool(Runtime.getRuntime().availableProcessors());
        List<Future<String>> told = new ArrayList<>();
        for (Break b : breaks) {
            Path own = room.resolve("" + told.size());
            told.add(workers.submit(() -> tell(source, b, own, args[1])));
        }
        int unseen = 0;
        for (Future<String> line : told) {
            unseen += line.get().isEmpty() ? 0 : 1;
            System.out.print(line.get());
        }
        workers.shutdown();
        System.out.println(unseen + " of " + breaks.size() + " breaks are unseen");
    }

    private static void see() {
        try {
            ClothEdgesTest.all();
            TallyEdgesTest.all();
            WritEdgesTest.all();
            ActEdgesTest.all();
            RollEdgesTest.all();
            SlipEdgesTest.all();
            RefusedTest.all();
        } finally {
            System.out.println("broken: " + Check.broken());
        }
        System.exit(Check.wrongs() == 0 ? 0 : 1);
    }

    private static Map<String, String[]> turns() {
        String[][] pairs = {{"<", "<=", ">="}, {"<=", "<", ">"}, {">", ">=", "<="}, {">=", ">", "<"}, {"==", "!="},
            {"!=", "=="}, {"&&", "||"}, {"||", "&&"}, {"+=", "-="}, {"-=", "+="}, {"++", "--"}, {"--", "++"}, {"+", "-"},
            {"-", "+"}, {"*", "+"}, {"/", "*"}, {"%", "*"}, {"true", "false"}, {"false", "true"},
            {"Math.max", "Math.min"}, {"Math.min", "Math.max"}};
        Map<String, String[]> turns = new HashMap<>();
        for (String[] p : pairs) {
            turns.put(p[0], java.util.Arrays.copyOfRange(p, 1, p.length));
        }
        return turns;
    }

    /** The source with blanks for its comments and texts. */
    private static String bare(String source) {
        StringBuilder bare = new StringBuilder(source);
        Matcher m = Pattern.compile("(?s)/\\*.*?\\*/|//[^\n]*|\"[^\"\n]*\"|'(\\\\.|[^'\\\\])'").matcher(source);
        while (m.find()) {
            for (int i = m.start(); i < m.end(); i++) {
                bare.setCharAt(i, source.charAt(i) == '\n' ? '\n' : ' ');
            }
        }
        return bare.toString();
    }

    private static List<Break> breaks(String source) {
        String bare = bare(source);
        List<Break> breaks = new ArrayList<>();
        Matcher number = Pattern.compile("(?<![\\w.])(\\d+)(L?)\\b").matcher(bare);
        while (number.find()) {
            long n = Long.parseLong(number.group(1));
            breaks.add(new Break(number.start(), number.group(), n + 1 + number.group(2)));
            breaks.add(new Break(number.start(), number.group(), "(" + (n - 1) + number.group(2) + ")"));
        }
        Matcher sign = Pattern.compile("<=|>=|==|!=|&&|\\|\\||(?<=\\s)[<>](?=\\s)|\\+=|-=|\\+\\+|--|(?<= )[-+*/%](?= )"
                + "|\\btrue\\b|\\bfalse\\b|Math\\.max|Math\\.min").matcher(bare);
        while (sign.find()) {
            for (String to : TURNS.get(sign.group())) {
                breaks.add(new Break(sign.start(), sign.group(), to));
            }
        }
        Matcher line = Pattern.compile("(?m)^ +(?!return|break|continue|private|public)\\w[\\w\\[\\].+*, ]*"
                + "(\\(.*\\)|[-+*/]?= .*|\\+\\+|--);$").matcher(bare);
        while (line.find()) {
            breaks.add(new Break(line.start(), source.substring(line.start(), line.end()), ""));
        }
        return breaks;
    }

    /** A line about a break that no test sees; nothing of one that is seen, or that can't be compiled. */
    private static String tell(String source, Break b, Path own, String compiled) throws IOException, InterruptedException {
        Files.createDirectories(own);
        Path file = own.resolve("ChequeredCloth.java");
        Files.writeString(file, source.substring(0, b.at) + b.to + source.substring(b.at + b.from.length()));
        OutputStream none = OutputStream.nullOutputStream();
        if (ToolProvider.getSystemJavaCompiler().run(null, none, none, "-d", own.toString(), file.toString()) != 0) {
            return "";
        }
        Process run = new ProcessBuilder("java", "-XX:+UseSerialGC", "-XX:TieredStopAtLevel=1", "-cp",
                own + java.io.File.pathSeparator + compiled, "Breaks", "see")
                .redirectErrorStream(true).redirectOutput(ProcessBuilder.Redirect.DISCARD).start();
        boolean ended = run.waitFor(MOST_SECONDS, java.util.concurrent.TimeUnit.SECONDS);
        run.destroyForcibly();
        if (!ended || run.exitValue() != 0) {
            return "";
        }
        int from = source.lastIndexOf('\n', b.at) + 1;
        long number = source.substring(0, from).chars().filter(c -> c == '\n').count() + 1;
        String text = source.substring(b.at).lines().findFirst().orElse("");
        return "line " + number + ", " + b.from.trim() + " -> " + b.to + " at: "
                + source.substring(from, b.at).trim() + " ^ " + text + "\n";
    }
}
