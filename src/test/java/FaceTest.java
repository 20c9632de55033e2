import java.io.IOException;
import java.lang.reflect.Constructor;
import java.lang.reflect.Field;
import java.lang.reflect.Method;
import java.lang.reflect.Modifier;
import java.nio.charset.StandardCharsets;
import java.nio.file.Files;
import java.nio.file.Path;
import java.util.ArrayList;
import java.util.Arrays;
import java.util.HashSet;
import java.util.List;
import java.util.Set;
import java.util.TreeSet;
import java.util.regex.Matcher;
import java.util.regex.Pattern;

/** The public face of the document, line by line, and the rules of LANGUAGE.md that can be looked up in the text. */
public final class FaceTest {
    private static final Path DOCUMENT = Path.of("../shared/DOC.md");
    private static final Path SOURCE = Path.of("src/main/java/SlipwayYard.java");

    public static void main(String[] args) throws IOException {
        face();
        constants();
        nested();
        words();
        lengths();
        Due.end();
    }

    private static void face() throws IOException {
        String document = Files.readString(DOCUMENT, StandardCharsets.UTF_8);
        Set<String> want = new TreeSet<>();
        Matcher lines = Pattern.compile("(?m)^    public ([a-z]+ [a-zA-Z]+\\(.*?\\).*);$").matcher(document);
        while (lines.find()) {
            want.add(lines.group(1).replaceAll("(int|long|boolean) [a-zA-Z]+(?=[,)])", "$1").replaceAll(" throws ", " ! "));
        }
        Set<String> got = new TreeSet<>();
        Set<String> hidden = new HashSet<>();
        for (Method method : SlipwayYard.class.getDeclaredMethods()) {
            if (Modifier.isPublic(method.getModifiers())) {
                got.add(told(method));
            } else {
                Due.holds(method.getName() + " is private", Modifier.isPrivate(method.getModifiers()));
                hidden.add(method.getName());
            }
        }
        Due.is("the public methods", want, () -> got);
        Due.is("how many public methods", 45, got::size);
        for (String line : got) {
            String name = line.substring(line.indexOf(' ') + 1, line.indexOf('('));
            Due.holds(name + " is no name of a private method", !hidden.contains(name));
        }
        Constructor<?>[] all = SlipwayYard.class.getDeclaredConstructors();
        Due.is("constructors", "[public SlipwayYard()]", () -> Arrays.toString(all));
        Due.is("the class", "public final", () -> Modifier.toString(SlipwayYard.class.getModifiers()));
    }

    private static String told(Method method) {
        StringBuilder line = new StringBuilder();
        line.append(method.getReturnType()).append(' ').append(method.getName()).append('(');
        List<String> names = new ArrayList<>();
        for (Class<?> type : method.getParameterTypes()) {
            names.add(type.getSimpleName());
        }
        line.append(String.join(", ", names)).append(')');
        names.clear();
        for (Class<?> type : method.getExceptionTypes()) {
            names.add(type.getSimpleName());
        }
        return line.append(names.isEmpty() ? "" : " ! ").append(String.join(", ", names)).toString();
    }

    private static void constants() throws IOException {
        Set<String> open = new TreeSet<>();
        for (Field field : SlipwayYard.class.getDeclaredFields()) {
            int modifiers = field.getModifiers();
            if (!Modifier.isPrivate(modifiers)) {
                open.add(field.getName());
                Due.is(field.getName(), "public static final", () -> Modifier.toString(modifiers));
            }
            Due.holds(field.getName() + " is final if static", !Modifier.isStatic(modifiers) || Modifier.isFinal(modifiers));
        }
        Due.is("the constants", "[BEGINS_BEGINS, BEGINS_ENDS, ENDS_BEGINS, ENDS_ENDS, NONE]", open::toString);
        Due.is("NONE", -1, () -> SlipwayYard.NONE);
        Due.is("ENDS_BEGINS", 0, () -> SlipwayYard.ENDS_BEGINS);
        Due.is("BEGINS_BEGINS", 1, () -> SlipwayYard.BEGINS_BEGINS);
        Due.is("ENDS_ENDS", 2, () -> SlipwayYard.ENDS_ENDS);
        Due.is("BEGINS_ENDS", 3, () -> SlipwayYard.BEGINS_ENDS);
    }

    private static void nested() {
        Class<?>[] inside = SlipwayYard.class.getDeclaredClasses();
        Due.holds("at most twelve classes", inside.length + 1 <= 12);
        Set<String> face = new HashSet<>();
        for (Method method : SlipwayYard.class.getDeclaredMethods()) {
            if (Modifier.isPublic(method.getModifiers())) {
                face.add(method.getName());
            }
        }
        for (Class<?> one : inside) {
            int modifiers = one.getModifiers();
            Due.holds(one.getName() + " is static", Modifier.isStatic(modifiers));
            Due.holds(one.getName() + " is hidden", !Modifier.isPublic(modifiers) && !Modifier.isProtected(modifiers));
            int fields = 0;
            for (Field field : one.getDeclaredFields()) {
                boolean isStatic = Modifier.isStatic(field.getModifiers());
                fields += isStatic ? 0 : 1;
                Due.holds("static fields are final", !isStatic || Modifier.isFinal(field.getModifiers()));
            }
            Due.holds("at most twenty fields in " + one.getName(), fields <= 20);
            for (Method method : one.getDeclaredMethods()) {
                Due.holds(method.getName() + " is no name of the face", !face.contains(method.getName()));
                Due.holds(method.getName() + " has at most seven parameters", method.getParameterCount() <= 7);
            }
        }
    }

    /** Words that LANGUAGE.md leaves no room for; strings and comments do not count. */
    private static void words() throws IOException {
        String source = Files.readString(SOURCE, StandardCharsets.UTF_8);
        String code = source.replaceAll("(?s)/\\*.*?\\*/", "").replaceAll("//.*", "").replaceAll("\"[^\"]*\"", "\"\"");
        String[] banned = {"\\btry\\b", "\\bcatch\\b", "\\bfinally\\b", "\\bassert\\b", "\\bsynchronized\\b", "->", "::",
            "\\bpackage\\b", "\\bSystem\\.(?!arraycopy)", "\\bRandom\\b", "\\bThread\\b", "Exact\\(", "\\bMath\\.random\\b",
            "\"\\s*\\+", "\\+\\s*\"", "\\bvar\\b", "\\bnative\\b", "\\bvolatile\\b", "\\btransient\\b", "\\bgetClass\\b",
            "\\bhashCode\\b", "\\bequals\\b", "\\btoString\\b", "\\bObject\\b", "while \\(true\\)", "for \\(;;\\)",
            "static \\{", "\\bprotected\\b"};
        for (String word : banned) {
            Due.holds("no " + word, !Pattern.compile(word).matcher(code).find());
        }
        Set<String> imports = new TreeSet<>();
        Matcher found = Pattern.compile("(?m)^import (.*);$").matcher(code);
        while (found.find()) {
            imports.add(found.group(1));
        }
        Due.is("imports", "[java.util.Arrays, java.util.NoSuchElementException]", imports::toString);
        Set<String> library = new TreeSet<>();
        found = Pattern.compile("\\b(Arrays|Math|Integer|Long|System)\\.[a-zA-Z]+").matcher(code.replaceAll("import .*", ""));
        while (found.find()) {
            library.add(found.group());
        }
        Due.is("the library", "[Arrays.fill, Integer.bitCount, Math.abs, Math.max, Math.min]", library::toString);
        Set<String> thrown = new TreeSet<>();
        found = Pattern.compile("throw ([^\"(]*\\(\"\"\\))").matcher(code);
        int throwsWithText = 0;
        while (found.find()) {
            throwsWithText++;
            thrown.add(found.group(1));
        }
        int known = throwsWithText;
        Due.is("throws", known, () -> code.split("\\bthrow ").length - 1);
        Due.is("what is thrown", "[new IllegalArgumentException(\"\"), new IllegalStateException(\"\"), "
                + "new IndexOutOfBoundsException(\"\"), new NoSuchElementException(\"\")]", thrown::toString);
        Due.holds("only signs 1 to 127", source.chars().allMatch(sign -> sign < 128));
    }

    private static void lengths() throws IOException {
        int start = -1;
        List<String> lines = Files.readAllLines(SOURCE, StandardCharsets.UTF_8);
        for (int k = 0; k < lines.size(); k++) {
            String line = lines.get(k);
            Due.holds("line " + (k + 1) + " is at most 120 signs long", line.length() <= 120);
            if (line.matches("( {4}| {8})[a-z].*[({,]$") && !line.contains("class ") && start < 0) {
                start = k;
            } else if (line.matches("( {4}| {8})\\}") && start >= 0) {
                Due.holds("the method at line " + (start + 1) + " is at most 60 lines long", k - start < 60);
                start = -1;
            }
        }
    }
}
