import java.io.IOException;
import java.lang.reflect.Field;
import java.lang.reflect.Method;
import java.lang.reflect.Modifier;
import java.nio.charset.StandardCharsets;
import java.nio.file.Files;
import java.nio.file.Path;
import java.util.ArrayList;
import java.util.List;
import java.util.TreeSet;
import java.util.regex.Pattern;

/** The rules of LANGUAGE.md that can be seen from the source or from the compiled classes. */
final class RulesTest {
    private static final String[] FACE = {
        "int feed(int,int,int,int,int)", "boolean end(int)", "boolean put(int,int)", "int lies(int)", "long worth()",
        "int plain(int,int)", "int lay(int)", "int draw(int)", "int steps(int)", "int cut(boolean,int,int,int)",
        "boolean burn(boolean,int)", "int sum(boolean,int)", "boolean wear(int,int,int)", "int fit(int,int)",
        "int mate(int)", "int matched(int)", "int writ(int)", "int fault(int)", "int force(int)", "int pays(int,int,int)",
        "int tally(int,int,int)", "int fire(int,int)", "int annul(int)", "boolean as(int)", "long roll(int,int,int)",
        "long owed(int)", "int slip(int,int,long)", "int moved()", "int since(int,int)", "int all(int)",
    };

    public static void main(String[] args) throws IOException {
        face();
        classes();
        String source = Files.readString(Path.of(args[0]), StandardCharsets.US_ASCII);
        words(withoutTexts(source));
        methods(source);
        Check.close("RulesTest");
    }

    private static List<Class<?>> all() {
        List<Class<?>> all = new ArrayList<>(List.of(ChequeredCloth.class.getDeclaredClasses()));
        all.add(ChequeredCloth.class);
        return all;
    }

    private static String signature(Method m) {
        StringBuilder out = new StringBuilder(m.getReturnType() + " " + m.getName() + "(");
        for (Class<?> type : m.getParameterTypes()) {
            out.append(out.charAt(out.length() - 1) == '(' ? "" : ",").append(type);
        }
        return out + ")";
    }

    private static void face() {
        TreeSet<String> shown = new TreeSet<>();
        for (Method m : ChequeredCloth.class.getDeclaredMethods()) {
            if (!Modifier.isPrivate(m.getModifiers())) {
                shown.add(signature(m));
                Check.due("public, not static: " + m, m.getModifiers(), Modifier.PUBLIC);
            }
        }
        Check.due("the face " + shown, shown.equals(new TreeSet<>(List.of(FACE))), true);
        for (Field f : ChequeredCloth.class.getDeclaredFields()) {
            Check.due("private: " + f, Modifier.isPrivate(f.getModifiers()), !f.getName().equals("NONE"));
        }
        int type = Modifier.PUBLIC | Modifier.FINAL;
        Check.due("public and final", ChequeredCloth.class.getModifiers(), type);
        Check.due("one constructor", ChequeredCloth.class.getDeclaredConstructors().length, 1);
        Check.due("it is public", ChequeredCloth.class.getConstructors().length, 1);
    }

    private static void classes() {
        TreeSet<String> names = new TreeSet<>();
        for (String line : FACE) {
            names.add(line.substring(line.indexOf(' ') + 1, line.indexOf('(')));
        }
        Check.due("some twelve classes", all().size() <= 12, true);
        for (Class<?> c : all()) {
            int fields = 0;
            for (Field f : c.getDeclaredFields()) {
                fields += Modifier.isStatic(f.getModifiers()) ? 0 : 1;
                Check.due("static is final: " + f,
                        !Modifier.isStatic(f.getModifiers()) || Modifier.isFinal(f.getModifiers()), true);
            }
            Check.due("some twenty fields: " + c, fields <= 20, true);
            Check.due("static or the outer one: " + c,
                    Modifier.isStatic(c.getModifiers()) != (c == ChequeredCloth.class), true);
            for (Method m : c.getDeclaredMethods()) {
                Check.due("seven parameters: " + m, m.getParameterCount() <= 7, true);
                Check.due("no name of the face: " + m, names.contains(m.getName()), c == ChequeredCloth.class
                        && Modifier.isPublic(m.getModifiers()));
            }
        }
    }

    private static String withoutTexts(String source) {
        return source.replaceAll("(?s)/\\*.*?\\*/", " ").replaceAll("//[^\n]*", " ")
                .replaceAll("\"(\\\\.|[^\"\\\\])*\"", "\"\"").replaceAll("'(\\\\.|[^'\\\\])'", "' '");
    }

    private static void words(String source) {
        String[] none = {"throw", "throws", "try", "catch", "synchronized", "assert", "package", "instanceof", "var",
            "record", "interface", "double", "float", "Object", "Thread", "Random", "Runtime", "equals", "hashCode",
            "toString", "volatile", "native", "transient", "yield", "\\w+Exact", "Exception", "Error"};
        for (String word : none) {
            Check.due("no " + word, Pattern.compile("\\b" + word + "\\b").matcher(source).find(), false);
        }
        for (String mark : new String[] {"->", "::", "@", "\"\" +", "+ \"\"", "== \"\"", "static {"}) {
            Check.due("no " + mark, source.contains(mark), false);
        }
        java.util.regex.Matcher imports = Pattern.compile("import ([^;]+);").matcher(source);
        while (imports.find()) {
            Check.due("import " + imports.group(1), imports.group(1).matches("java\\.util\\.(Arrays|ArrayList|List|Iterator)"), true);
        }
        java.util.regex.Matcher calls = Pattern.compile("\\b(Arrays|Math|System|Integer|Long|String)\\.(\\w+)").matcher(source);
        while (calls.find()) {
            Check.due(calls.group(), calls.group().matches(
                    "Arrays\\.(copyOf|copyOfRange|fill)|Math\\.(min|max|abs|floorDiv|floorMod)|System\\.arraycopy"), true);
        }
    }

    /** Methods of sixty lines at most: from a line with a brace, eight blanks in, to its closing one. */
    private static void methods(String source) {
        String[] lines = source.split("\n");
        int start = -1;
        int count = 0;
        for (int i = 0; i < lines.length; i++) {
            if (lines[i].matches(" {4}( {4})?\\w.*\\(.*\\{")) {
                start = i;
            } else if (start >= 0 && lines[i].equals(lines[start].replaceAll("\\S.*", "") + "}")) {
                Check.due("a short method: " + lines[start].trim(), i - start < 60, true);
                start = -1;
                count++;
            }
        }
        Check.due("methods were seen", count > 80, true);
    }
}
