import java.io.IOException;
import java.lang.reflect.Constructor;
import java.lang.reflect.Field;
import java.lang.reflect.Method;
import java.lang.reflect.Modifier;
import java.nio.file.Files;
import java.nio.file.Path;
import java.util.Arrays;
import java.util.Set;
import java.util.TreeSet;
import java.util.regex.Matcher;
import java.util.regex.Pattern;

/** The public face, and those rules of ../shared/LANGUAGE.md that can be seen by reflection or in the source. */
public final class RulesTest {
    private static final String SOURCE = "src/main/java/StolenHours.java";
    private static final String METHOD = " {4}( {4})?(?! |for\\b|if\\b|while\\b|switch\\b)[\\w\\[\\]<> ]+\\(.*\\{";
    private static final String[] FACE = {
        "int feed(int,int,int,int,int)", "int end(int)", "int text(int,int)", "int fault(int)", "int street(int,int)",
        "int deed(int,int,int)", "int till(int,int)", "int state(int,int,int,int)", "int run(int,int,int,boolean)",
        "int errands(int,int,int,int)", "int plan(int,int,boolean)", "int halves(int,boolean)",
        "int free(int,int,boolean)", "int corner(int,int,int)", "long tin(int,int,int,boolean)", "long waits(int,int)",
        "int fact(int,int,int)", "int fits(int,int)", "int swap(int,int)", "int drawn(int,int,int,int)",
        "int robbed(int,int,int)", "int shared(int,int,int)", "int gift(int,int,int,boolean)", "int missed(int,int,int)",
        "int wanted(int,boolean)", "int left(int,int)", "int early(int,int,int)", "int ranked(int,int,int)",
        "int enough(int,int)", "int after(int,int,int)", "int span(int,int)", "int happy(int,int)", "int count(int)",
        "boolean image(int)", "boolean again(int)"};
    private static final String[] FORBIDDEN = {"throw", "throws", "try", "catch", "finally", "synchronized", "assert",
        "instanceof", "record", "protected", "volatile", "native", "double", "float", "Object", "System\\.(?!arraycopy)",
        "->", "::", "import (?!java\\.util\\.Arrays;)", "equals", "hashCode", "toString", "\" *\\+", "\\+ *\"",
        "while \\(true\\)", "for \\(;", "default ->", "Exact\\(", "@"};

    private RulesTest() {
    }

    public static void main(String[] args) throws IOException {
        face();
        Set<String> names = new TreeSet<>();
        for (String line : FACE) {
            names.add(line.replaceAll("^\\w+ |\\(.*", ""));
        }
        Class<?>[] classes = StolenHours.class.getDeclaredClasses();
        Check.due("classes are few", classes.length < 12, true);
        for (Class<?> one : classes) {
            int modifiers = one.getModifiers();
            Check.due(one + " is static", Modifier.isStatic(modifiers) && !Modifier.isPublic(modifiers), true);
            members(one, names);
        }
        members(StolenHours.class, new TreeSet<>());
        source();
        Check.finish("RulesTest");
    }

    private static void face() {
        Class<StolenHours> all = StolenHours.class;
        Check.due("the class", Modifier.toString(all.getModifiers()).equals("public final"), true);
        Set<String> want = new TreeSet<>(Arrays.asList(FACE));
        Set<String> got = new TreeSet<>();
        for (Method method : all.getDeclaredMethods()) {
            if (Modifier.isPrivate(method.getModifiers()) || method.isSynthetic()) {
                continue;
            }
            Check.due(method + " is public", Modifier.toString(method.getModifiers()).equals("public"), true);
            String types = Arrays.toString(method.getParameterTypes()).replaceAll("[\\[\\] ]", "");
            got.add(method.getReturnType() + " " + method.getName() + "(" + types + ")");
        }
        Check.due("the face " + got, got.equals(want), true);
        Constructor<?>[] constructors = all.getDeclaredConstructors();
        Check.due("one constructor", constructors.length == 1 && constructors[0].getParameterCount() == 0, true);
        for (Field field : all.getDeclaredFields()) {
            boolean constant = field.getName().equals("NONE");
            Check.due(field + " is private", Modifier.isPrivate(field.getModifiers()), !constant);
        }
    }

    private static void members(Class<?> one, Set<String> taken) {
        int fields = 0;
        for (Field field : one.getDeclaredFields()) {
            int modifiers = field.getModifiers();
            if (Modifier.isStatic(modifiers)) {
                Check.due(field + " is final", Modifier.isFinal(modifiers), true);
            } else {
                fields++;
            }
        }
        Check.due(one + " has few fields", fields <= 20, true);
        for (Method method : one.getDeclaredMethods()) {
            Check.due(method + " takes few", method.getParameterCount() <= 7, true);
            Check.due(method + " has its own name", taken.contains(method.getName()), false);
        }
    }

    private static void source() throws IOException {
        String text = Files.readString(Path.of(SOURCE)).replaceAll("//.*", "").replaceAll("(?s)/\\*.*?\\*/", "");
        for (String word : FORBIDDEN) {
            String pattern = Character.isLetter(word.charAt(0)) ? "\\b" + word + (word.matches("\\w+") ? "\\b" : "") : word;
            Matcher found = Pattern.compile(pattern).matcher(text);
            boolean there = found.find();
            String where = there ? text.substring(found.start(), Math.min(text.length(), found.end() + 30)) : "";
            Check.due("no " + word + ": " + where, there, false);
        }
        for (int i = 0; i < text.length(); i++) {
            if (text.charAt(i) > 126) {
                Check.due("a sign of " + (int) text.charAt(i), true, false);
            }
        }
        methodsAreShort(text);
        nothingIsMadeInCalls(text);
        onlyPickCallsItself(text);
        libraryCalls(text);
        Check.due("no package", Pattern.compile("(?m)^package ").matcher(text).find(), false);
        Check.due("one public class", text.split("public (final )?class ", -1).length - 1, 1);
    }

    private static void methodsAreShort(String text) {
        int start = -1;
        String[] lines = text.split("\n");
        for (int i = 0; i < lines.length; i++) {
            if (lines[i].matches(METHOD)) {
                start = i;
            } else if (lines[i].matches(" {4}( {4})?\\}") && start >= 0) {
                Check.due("short enough: " + lines[start], i - start <= 60, true);
                start = -1;
            }
        }
    }

    /** All rows and objects are made with the object, once: in a field's initialiser or in a constructor. */
    private static void nothingIsMadeInCalls(String text) {
        String method = "";
        for (String line : text.split("\n")) {
            if (line.matches(METHOD)) {
                method = line;
            }
            if (line.matches(".*\\bnew\\b.*")) {
                boolean field = line.matches(" +(private )?final [\\w\\[\\]]+ \\w+ = new .*;");
                boolean constructor = method.matches(" +(public )?(StolenHours|Told|Lines)\\(.*");
                Check.due("made once: " + line, field || constructor, true);
            }
        }
    }

    private static void onlyPickCallsItself(String text) {
        String name = "";
        for (String line : text.split("\n")) {
            if (line.matches(METHOD)) {
                name = line.replaceAll("\\(.*", "").replaceAll(".* ", "");
            } else if (!name.isEmpty() && Pattern.compile("(?<![.\\w])" + name + "\\(").matcher(line).find()) {
                Check.due("calls itself: " + name, name.equals("pick"), true);
            }
        }
    }

    private static void libraryCalls(String text) {
        Set<String> allowed = Set.of("Math.max", "Math.min", "Integer.bitCount", "Long.bitCount", "Arrays.fill", "System.arraycopy");
        Matcher call = Pattern.compile("\\b(Math|Integer|Long|Short|Byte|Character|Boolean|Arrays|System)\\.\\w+").matcher(text);
        while (call.find()) {
            Check.due("the library's " + call.group(), allowed.contains(call.group()), true);
        }
    }
}
