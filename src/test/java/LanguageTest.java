import java.io.IOException;
import java.lang.reflect.Constructor;
import java.lang.reflect.Field;
import java.lang.reflect.Method;
import java.lang.reflect.Modifier;
import java.nio.file.Files;
import java.nio.file.Path;
import java.util.ArrayList;
import java.util.Arrays;
import java.util.List;
import java.util.Set;
import java.util.regex.Matcher;
import java.util.regex.Pattern;
import java.util.stream.Collectors;

/** The face of the class, and the rules of LANGUAGE.md that can be seen in the class or in its source. */
public final class LanguageTest {
    private static final Check CHECK = new Check("LanguageTest");
    private static final Path SOURCE = Path.of("src/main/java/LateBridges.java");
    private static final Path DOCUMENT = Path.of("../shared/DOC.md");

    public static void main(String[] args) throws IOException, IllegalAccessException {
        List<String> face = faceOfTheDocument();
        rule1Face(face);
        rules2And5ClassesInside(face);
        String source = Files.readString(SOURCE);
        String code = withoutCommentsAndTexts(source);
        forbiddenWords(code);
        libraryCalls(code);
        rule11MethodLengths(source);
        CHECK.end();
    }

    /** Its members one by one, each without the names of what it takes. */
    private static List<String> faceOfTheDocument() throws IOException {
        String document = Files.readString(DOCUMENT);
        int begin = document.indexOf("public final class LateBridges {");
        String block = document.substring(document.indexOf('\n', begin), document.indexOf("\n}", begin));
        List<String> members = new ArrayList<>();
        for (String line : block.split(";")) {
            String member = line.strip();
            if (member.startsWith("public static final int ")) {
                for (String constant : member.substring("public static final int ".length()).split(", ")) {
                    members.add("public static final int " + constant);
                }
            } else if (!member.isEmpty()) {
                members.add(member.replaceAll("(int|boolean) \\w+(?=[,)])", "$1"));
            }
        }
        CHECK.due("members of the document's face", members.size(), 5 + 1 + 33);
        return members;
    }

    private static void rule1Face(List<String> face) throws IllegalAccessException {
        List<String> found = new ArrayList<>();
        for (Method m : LateBridges.class.getDeclaredMethods()) {
            if (Modifier.isPrivate(m.getModifiers())) {
                CHECK.holds(m + " bears a public one's name", !bearsPublicName(m, face));
            } else {
                CHECK.holds(m + " says that it throws", m.getExceptionTypes().length == 0);
                found.add(Modifier.toString(m.getModifiers()) + " " + m.getReturnType() + " " + m.getName()
                    + taken(m.getParameterTypes()));
            }
        }
        for (Constructor<?> c : LateBridges.class.getDeclaredConstructors()) {
            CHECK.holds(c + " says that it throws", c.getExceptionTypes().length == 0);
            found.add((Modifier.toString(c.getModifiers()) + " " + c.getName()).strip() + taken(c.getParameterTypes()));
        }
        for (Field f : LateBridges.class.getDeclaredFields()) {
            if (!Modifier.isPrivate(f.getModifiers())) {
                found.add(Modifier.toString(f.getModifiers()) + " " + f.getType() + " " + f.getName() + " = " + valueOf(f));
            }
        }
        CHECK.holds("the face is " + found + ", due is " + face, sorted(found).equals(sorted(face)));
        CHECK.holds("the class is public and final, and extends and implements nothing",
            LateBridges.class.getModifiers() == (Modifier.PUBLIC | Modifier.FINAL)
                && LateBridges.class.getSuperclass() == Object.class && LateBridges.class.getInterfaces().length == 0);
    }

    private static String taken(Class<?>[] types) {
        return Arrays.stream(types).map(Class::getName).collect(Collectors.joining(", ", "(", ")"));
    }

    private static String valueOf(Field f) throws IllegalAccessException {
        return Modifier.isStatic(f.getModifiers()) ? String.valueOf(f.get(null)) : "one for each object";
    }

    private static List<String> sorted(List<String> members) {
        return members.stream().sorted().collect(Collectors.toList());
    }

    private static boolean bearsPublicName(Method m, List<String> face) {
        return face.stream().anyMatch(f -> f.contains(" " + m.getName() + "("));
    }

    private static void rules2And5ClassesInside(List<String> face) {
        List<Class<?>> classes = new ArrayList<>(List.of(LateBridges.class.getDeclaredClasses()));
        CHECK.holds("more than twelve classes", classes.size() + 1 <= 12);
        classes.add(LateBridges.class);
        for (Class<?> c : classes) {
            CHECK.holds(c + " has classes of its own", c == LateBridges.class || c.getDeclaredClasses().length == 0);
            CHECK.holds(c + " is not static", c == LateBridges.class || Modifier.isStatic(c.getModifiers()));
            int fields = 0;
            for (Field f : c.getDeclaredFields()) {
                boolean isStatic = Modifier.isStatic(f.getModifiers());
                fields += isStatic ? 0 : 1;
                CHECK.holds(f + " is static but not final", !isStatic || Modifier.isFinal(f.getModifiers()));
            }
            CHECK.holds(c + " has more than twenty fields", fields <= 20);
            for (Method m : c.getDeclaredMethods()) {
                CHECK.holds(m + " takes more than seven", m.getParameterCount() <= 7);
                CHECK.holds(m + " bears a public one's name", c == LateBridges.class || !bearsPublicName(m, face));
            }
        }
    }

    private static String withoutCommentsAndTexts(String source) {
        return source.replaceAll("(?s)/\\*.*?\\*/", " ").replaceAll("//[^\n]*", " ")
            .replaceAll("\"[^\"\n]*\"", "\"\"").replaceAll("'[^'\n]+'", "'.'");
    }

    private static void forbiddenWords(String code) {
        String[] words = {
            "throw", "throws", "try", "catch", "synchronized", "assert", "package", "protected", "lambda", "var",
            "equals", "hashCode", "toString", "Exception", "Thread", "Random", "yield", "volatile", "transient", "native",
        };
        for (String word : words) {
            CHECK.holds("the source has the word " + word, !Pattern.compile("\\b" + word + "\\b").matcher(code).find());
        }
        CHECK.holds("the source has a lambda", !code.contains("->"));
        CHECK.holds("the source has a method reference", !code.contains("::"));
        CHECK.holds("the source has a static block", !Pattern.compile("static\\s*\\{").matcher(code).find());
        CHECK.holds("the source has an endless loop", !Pattern.compile("while\\s*\\(\\s*true|for\\s*\\(\\s*;\\s*;").matcher(code).find());
        CHECK.holds("the source has another sign than 10, 32 to 126", code.chars().allMatch(c -> c == 10 || (c >= 32 && c <= 126)));
    }

    private static void libraryCalls(String code) {
        Set<String> allowed = Set.of("Math.max", "Math.min", "Integer.bitCount", "System.arraycopy");
        Matcher calls = Pattern.compile("\\b([A-Z][a-z]\\w*)\\.(\\w+)\\(").matcher(code);
        while (calls.find()) {
            String call = calls.group(1) + "." + calls.group(2);
            CHECK.holds("the source calls " + call, allowed.contains(call));
        }
        CHECK.holds("the source imports something", !Pattern.compile("\\bimport\\b").matcher(code).find());
    }

    private static void rule11MethodLengths(String source) {
        String[] lines = source.split("\n");
        Pattern head = Pattern.compile("^(    |        )\\w[\\w\\[\\] ]+\\([^)]*\\) \\{$");
        for (int i = 0; i < lines.length; i++) {
            Matcher m = head.matcher(lines[i]);
            if (m.matches()) {
                int end = i;
                while (!lines[end].equals(m.group(1) + "}")) {
                    end++;
                }
                CHECK.holds("the method of line " + (i + 1) + " is longer than sixty lines", end - i <= 60);
            }
            CHECK.holds("line " + (i + 1) + " is longer than 130 signs", lines[i].length() <= 130);
        }
    }
}
