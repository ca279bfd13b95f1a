import java.util.TreeSet;

/** What the tests share: they count and print each answer that is not the one due. */
final class Check {
    private static int wrong = 0;
    private static int asked = 0;
    private static String sentence = "";
    private static int askedOfSentence = 1;
    private static final TreeSet<String> SENTENCES = new TreeSet<>();
    private static final TreeSet<String> BROKEN = new TreeSet<>();

    private Check() {
    }

    /** What is asked from here on is due by this sentence of the document. */
    static void says(String words) {
        if (askedOfSentence == 0 || !SENTENCES.add(words)) {
            wrong++;
            System.out.println("nothing was asked, or it was said before: " + sentence + " / " + words);
        }
        sentence = words;
        askedOfSentence = 0;
    }

    static void due(String call, long got, long want) {
        asked++;
        askedOfSentence++;
        if (got != want) {
            wrong++;
            BROKEN.add(sentence);
            if (wrong <= 50) {
                System.out.println((sentence.isEmpty() ? "" : "\"" + sentence + "\": ")
                        + call + " answered " + got + ", due is " + want);
            }
        }
    }

    static void due(String call, boolean got, boolean want) {
        due(call, got ? 1 : 0, want ? 1 : 0);
    }

    static int wrongs() {
        return wrong;
    }

    /** The sentences by which some answer was not as due. */
    static TreeSet<String> broken() {
        return BROKEN;
    }

    static TreeSet<String> sentences() {
        return SENTENCES;
    }

    static String sentence() {
        return sentence;
    }

    static void close(String test) {
        System.out.println(test + ": " + asked + " answers, "
                + (SENTENCES.isEmpty() ? "" : "by " + SENTENCES.size() + " sentences, ") + wrong + " not as due");
        if (wrong != 0 || asked == 0 || askedOfSentence == 0) {
            System.exit(1);
        }
    }
}
