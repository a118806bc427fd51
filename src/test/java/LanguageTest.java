import java.io.IOException;
import java.lang.reflect.Field;
import java.lang.reflect.Method;
import java.lang.reflect.Modifier;
import java.nio.charset.StandardCharsets;
import java.nio.file.Files;
import java.nio.file.Path;
import java.util.ArrayList;
import java.util.Arrays;
import java.util.List;
import java.util.Set;
import java.util.TreeSet;
import java.util.regex.Matcher;
import java.util.regex.Pattern;

/** The rules of ../shared/LANGUAGE.md that can be seen in the program's text or its classes. */
public final class LanguageTest {
    private static final Path PROGRAM = Path.of("src/main/java/StreamMultiplexer.java");
    private static final String[] NOT_IN_THE_TEXT = {
        "\\bpackage\\b", "\\bimport\\b", "\\bthrows?\\b", "\\btry\\b", "\\bcatch\\b", "\\bfinally\\b",
        "\\bsynchronized\\b", "\\bassert\\b", "->", "::",
        "\\bequals\\b", "\\bhashCode\\b", "\\btoString\\b", "\\bstatic\\s*\\{", "Exact\\b",
    };
    private static final Set<String> LIBRARY = Set.of("Integer.bitCount", "Math.max", "Math.min");
    private static final Pattern CALL_OF_THE_LIBRARY = Pattern.compile("\\b([A-Z][A-Za-z]*[a-z][A-Za-z]*\\.[a-z]\\w*)");
    private static final Pattern MEMBER = Pattern.compile(
            "^ {4}( {4})?(?!for |if |while |do |switch )[a-zA-Z].*\\{$");
    private static final Pattern CONSTRUCTOR = Pattern.compile("^ +(public )?[A-Z]\\w*\\([^()]*\\) \\{$");

    private static final int MOST_LINES = 60;
    private static final int MOST_PARAMETERS = 7;
    private static final int MOST_FIELDS = 20;
    private static final int MOST_CLASSES = 12;

    public static void main(String[] args) throws IOException {
        String text = Files.readString(PROGRAM, StandardCharsets.ISO_8859_1);
        checkSigns(text);
        String code = withoutComments(text);
        checkWords(code);
        checkMembers(code);
        checkClasses();
        Check.finish();
    }

    private static void holds(String what, boolean kept) {
        Check.due(what, 1, kept ? 1 : 0);
    }

    private static void checkSigns(String text) {
        holds("signs 1 to 127 alone", text.chars().allMatch(c -> c >= 1 && c <= 127));
    }

    private static String withoutComments(String text) {
        return text.replaceAll("(?s)/\\*.*?\\*/", "").replaceAll("//[^\n]*", "");
    }

    private static void checkWords(String code) {
        for (String word : NOT_IN_THE_TEXT) {
            holds("rules 1 to 6: none of " + word, !Pattern.compile(word).matcher(code).find());
        }
        Matcher calls = CALL_OF_THE_LIBRARY.matcher(code);
        while (calls.find()) {
            holds("rule 4: " + calls.group(1), LIBRARY.contains(calls.group(1)));
        }
    }

    /** Rule 11: short methods. Rule 12: what the README says, that constructors alone make objects. */
    private static void checkMembers(String code) {
        String member = "";
        int lines = 0;
        for (String line : code.split("\n")) {
            boolean begins = MEMBER.matcher(line).matches() && !line.contains(" class ");
            member = begins ? line : member;
            lines = begins ? 0 : lines + 1;
            boolean isStatement = line.startsWith("        ") && !begins;
            if (isStatement && line.matches(".*\\bnew\\b.*")) {
                holds("rule 12: an object made in " + member.trim(), CONSTRUCTOR.matcher(member).matches());
            }
            if (line.matches(" {4}( {4})?\\}")) {
                holds("rule 11: the length of " + member.trim(), lines < MOST_LINES);
            }
        }
    }

    private static void checkClasses() {
        List<Class<?>> classes = new ArrayList<>(Arrays.asList(StreamMultiplexer.class.getDeclaredClasses()));
        for (Class<?> c : classes) {
            int modifiers = c.getModifiers();
            holds("rule 2: static " + c, Modifier.isStatic(modifiers));
            holds("rule 1: inside " + c, !Modifier.isPublic(modifiers) && !Modifier.isProtected(modifiers));
            holds("rule 2: none inside " + c, c.getDeclaredClasses().length == 0);
        }
        classes.add(StreamMultiplexer.class);
        holds("rule 11: classes", classes.size() <= MOST_CLASSES);
        Set<String> face = new TreeSet<>();
        for (Method m : StreamMultiplexer.class.getMethods()) {
            face.add(m.getName());
        }
        for (Class<?> c : classes) {
            checkFields(c);
            checkMethods(c, face);
        }
    }

    private static void checkFields(Class<?> c) {
        int count = 0;
        for (Field f : c.getDeclaredFields()) {
            if (Modifier.isStatic(f.getModifiers())) {
                holds("rule 5: final " + f, Modifier.isFinal(f.getModifiers()) && f.getType() == int.class);
            } else {
                count++;
            }
        }
        holds("rule 11: fields of " + c, count <= MOST_FIELDS);
    }

    private static void checkMethods(Class<?> c, Set<String> face) {
        for (Method m : c.getDeclaredMethods()) {
            holds("rule 11: parameters of " + m, m.getParameterCount() <= MOST_PARAMETERS);
            if (Modifier.isPrivate(m.getModifiers())) {
                holds("rule 1: the name of " + m, !face.contains(m.getName()));
            }
        }
    }
}
