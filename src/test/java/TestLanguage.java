import java.io.IOException;
import java.lang.reflect.Constructor;
import java.lang.reflect.Field;
import java.lang.reflect.Member;
import java.lang.reflect.Method;
import java.lang.reflect.Modifier;
import java.nio.file.Files;
import java.nio.file.Path;
import java.util.HashSet;
import java.util.List;
import java.util.Set;
import java.util.TreeSet;
import java.util.regex.Matcher;
import java.util.regex.Pattern;

/** The rules of LANGUAGE.md that can be seen in the words of the source or in the compiled classes. */
public final class TestLanguage {
    private static final Path SOURCE = Path.of("src/main/java/CardNobodyReads.java");
    private static final List<String> FORBIDDEN = List.of("\\bthrow\\b", "\\btry\\b", "\\bcatch\\b",
            "\\bsynchronized\\b", "\\bassert\\b", "->", "::", "\\bimport\\b", "\\bpackage\\b", "\\bequals\\b",
            "\\bhashCode\\b", "\\btoString\\b", "Exact\\b", "\\bThread\\b", "\\bRandom\\b", "\\bcurrentTimeMillis\\b",
            "\\bnanoTime\\b", "\\bObject\\b", "\\bMath\\.random\\b", "\\bdouble\\b", "\\bfloat\\b", "\\bnull\\b");

    private TestLanguage() {
    }

    public static void main(String[] args) throws IOException {
        String source = Files.readString(SOURCE);
        String code = withoutTextsAndComments(source);
        for (String word : FORBIDDEN) {
            Check.due("the source has " + word, Pattern.compile(word).matcher(code).find() ? 1 : 0, 0);
        }
        Check.due("a sign above 127", source.chars().filter(c -> c > 127).count(), 0);
        noTextIsJoined(source);
        rowsAreReadByTheirTests(code);
        List<Class<?>> classes = new java.util.ArrayList<>(List.of(CardNobodyReads.class.getDeclaredClasses()));
        face(classes);
        Check.due("classes up to 12", Math.max(12, classes.size() + 1), 12);
        classes.add(CardNobodyReads.class);
        classes.forEach(TestLanguage::members);
        shortMethods(source);
        Check.end();
    }

    private static String withoutTextsAndComments(String source) {
        return source.replaceAll("(?s)/\\*.*?\\*/", " ").replaceAll("//[^\n]*", " ")
                .replaceAll("\"[^\"\n]*\"", "\"\"").replaceAll("'[^'\n]*'", "' '");
    }

    private static void noTextIsJoined(String source) {
        Check.due("a text is joined by +", Pattern.compile("\"\\s*\\+|\\+\\s*\"").matcher(source).find() ? 1 : 0, 0);
    }

    /** Only at() and put() read and write a row by an index; a bracket elsewhere makes or names one. */
    private static void rowsAreReadByTheirTests(String code) {
        Matcher bracket = Pattern.compile("(\\w+)\\[([^\\]]+)\\]").matcher(code);
        Set<String> found = new TreeSet<>();
        while (bracket.find()) {
            if (!bracket.group(1).equals("int")) {
                found.add(bracket.group());
            }
        }
        found.remove("row[i]");
        Check.due("indexes outside at() and put(): " + found, found.size(), 0);
    }

    private static void face(List<Class<?>> classes) {
        Set<String> publicNames = new HashSet<>();
        int methods = 0;
        for (Method method : CardNobodyReads.class.getDeclaredMethods()) {
            if (!Modifier.isPrivate(method.getModifiers())) {
                methods++;
                publicNames.add(method.getName());
                Check.due(method + " is public", Modifier.isPublic(method.getModifiers()) ? 1 : 0, 1);
            }
        }
        Check.due("methods of the face", methods, 46);
        for (Method method : CardNobodyReads.class.getDeclaredMethods()) {
            boolean clash = Modifier.isPrivate(method.getModifiers()) && publicNames.contains(method.getName());
            Check.due(method + " bears the name of a public one", clash ? 1 : 0, 0);
        }
        for (Class<?> one : classes) {
            for (Method method : one.getDeclaredMethods()) {
                Check.due(method + " bears the name of a public one", publicNames.contains(method.getName()) ? 1 : 0, 0);
            }
        }
        Check.due("the class is public and final", CardNobodyReads.class.getModifiers(), Modifier.PUBLIC | Modifier.FINAL);
        Constructor<?>[] made = CardNobodyReads.class.getDeclaredConstructors();
        Check.due("one constructor", made.length, 1);
        Check.due("it is public", made[0].getModifiers(), Modifier.PUBLIC);
        Set<String> constants = new TreeSet<>();
        for (Field field : CardNobodyReads.class.getDeclaredFields()) {
            if (!Modifier.isPrivate(field.getModifiers())) {
                constants.add(field.getName());
            }
        }
        Check.due("the constants: " + constants, constants.equals(Set.of("NONE", "BAD", "STATE", "FULL", "NO")) ? 1 : 0, 1);
    }

    private static void members(Class<?> one) {
        int fields = 0;
        boolean inside = one != CardNobodyReads.class;
        Check.due(one + " is static", inside && !Modifier.isStatic(one.getModifiers()) ? 1 : 0, 0);
        for (Field field : one.getDeclaredFields()) {
            boolean fixed = Modifier.isStatic(field.getModifiers());
            fields += fixed ? 0 : 1;
            Check.due(field + " is final", fixed && !isFinal(field) ? 1 : 0, 0);
        }
        Check.due(one + " has up to twenty fields", Math.max(20, fields), 20);
        for (Method method : one.getDeclaredMethods()) {
            Check.due(method + " takes up to seven", Math.max(7, method.getParameterCount()), 7);
        }
    }

    private static boolean isFinal(Member member) {
        return Modifier.isFinal(member.getModifiers());
    }

    /** A method ends where a brace stands at the depth at which its first line began. */
    private static void shortMethods(String source) {
        String[] lines = source.split("\n");
        for (int i = 0; i < lines.length; i++) {
            Matcher begin = Pattern.compile("^( {4}| {8})\\S.*\\) \\{$").matcher(lines[i]);
            if (begin.find()) {
                int end = i;
                while (end < lines.length - 1 && !lines[end].equals(begin.group(1) + "}")) {
                    end++;
                }
                Check.due("line " + (i + 1) + " begins a short method", Math.max(60, end - i), 60);
            }
        }
    }
}
