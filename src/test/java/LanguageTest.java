import java.io.IOException;
import java.lang.reflect.Constructor;
import java.lang.reflect.Field;
import java.lang.reflect.Method;
import java.lang.reflect.Modifier;
import java.nio.file.Files;
import java.nio.file.Path;
import java.util.ArrayList;
import java.util.Arrays;
import java.util.List;
import java.util.Set;
import java.util.TreeSet;
import java.util.regex.Matcher;
import java.util.regex.Pattern;

/** The face of the class, and the rules of LANGUAGE.md that can be seen in the class or in its source. */
public final class LanguageTest {
    private static final Check CHECK = new Check("LanguageTest");
    private static final Path SOURCE = Path.of("src/main/java/LateBridges.java");
    private static final String[] FACE = {
        "feed 1", "town 0", "fault 0", "told 1", "bridge 2", "keeper 2", "jumper 2", "flight 2", "roll 2", "leap 2",
        "post 2", "rest 1", "train 1", "talk 2", "hour 1", "drift 1", "undo 0", "way 3", "safest 3", "posts 2",
        "tires 2", "parted 2", "pays 2", "exact 2", "see 2", "quick 1", "watch 0", "write 2", "tear 0", "judge 0",
        "seed 1", "keep 1", "goBack 1",
    };

    public static void main(String[] args) throws IOException {
        rule1Face();
        rules2And5ClassesInside();
        String source = Files.readString(SOURCE);
        String code = withoutCommentsAndTexts(source);
        forbiddenWords(code);
        libraryCalls(code);
        rule11MethodLengths(source);
        CHECK.end();
    }

    private static void rule1Face() {
        Set<String> found = new TreeSet<>();
        for (Method m : LateBridges.class.getDeclaredMethods()) {
            if (Modifier.isPublic(m.getModifiers())) {
                CHECK.holds(m + " is not of the object", !Modifier.isStatic(m.getModifiers()));
                CHECK.holds(m + " does not answer an int", m.getReturnType() == int.class);
                found.add(m.getName() + " " + m.getParameterCount());
            } else {
                CHECK.holds(m + " is not private", Modifier.isPrivate(m.getModifiers()));
                CHECK.holds(m + " bears a public one's name", !bearsPublicName(m));
            }
        }
        CHECK.holds("the face is " + found, found.equals(new TreeSet<>(Arrays.asList(FACE))));
        for (Constructor<?> c : LateBridges.class.getDeclaredConstructors()) {
            CHECK.holds(c + " is not the face's", Modifier.isPublic(c.getModifiers()) && c.getParameterCount() == 0);
        }
        Set<String> constants = new TreeSet<>();
        for (Field f : LateBridges.class.getDeclaredFields()) {
            if (!Modifier.isPrivate(f.getModifiers())) {
                constants.add(f.getName());
            }
        }
        CHECK.holds("public constants are " + constants,
            constants.equals(new TreeSet<>(List.of("NONE", "UNKNOWN", "OUTSIDE", "NOT", "FULL"))));
        CHECK.holds("the class is public and final",
            Modifier.isPublic(LateBridges.class.getModifiers()) && Modifier.isFinal(LateBridges.class.getModifiers()));
    }

    private static boolean bearsPublicName(Method m) {
        return Arrays.stream(FACE).anyMatch(f -> f.startsWith(m.getName() + " "));
    }

    private static void rules2And5ClassesInside() {
        List<Class<?>> classes = new ArrayList<>(List.of(LateBridges.class.getDeclaredClasses()));
        CHECK.holds("more than twelve classes", classes.size() + 1 <= 12);
        classes.add(LateBridges.class);
        for (Class<?> c : classes) {
            CHECK.holds(c + " has classes of its own", c == LateBridges.class || c.getDeclaredClasses().length == 0);
            CHECK.holds(c + " is not static", c == LateBridges.class || Modifier.isStatic(c.getModifiers()));
            int fields = 0;
            for (Field f : c.getDeclaredFields()) {
                boolean isStatic = Modifier.isStatic(f.getModifiers());
                fields += isStatic ? 0 : 1;
                CHECK.holds(f + " is static but not final", !isStatic || Modifier.isFinal(f.getModifiers()));
            }
            CHECK.holds(c + " has more than twenty fields", fields <= 20);
            for (Method m : c.getDeclaredMethods()) {
                CHECK.holds(m + " takes more than seven", m.getParameterCount() <= 7);
                CHECK.holds(m + " bears a public one's name", c == LateBridges.class || !bearsPublicName(m));
            }
        }
    }

    private static String withoutCommentsAndTexts(String source) {
        return source.replaceAll("(?s)/\\*.*?\\*/", " ").replaceAll("//[^\n]*", " ")
            .replaceAll("\"[^\"\n]*\"", "\"\"").replaceAll("'[^'\n]+'", "'.'");
    }

    private static void forbiddenWords(String code) {
        String[] words = {
            "throw", "throws", "try", "catch", "synchronized", "assert", "package", "protected", "lambda", "var",
            "equals", "hashCode", "toString", "Exception", "Thread", "Random", "yield", "volatile", "transient", "native",
        };
        for (String word : words) {
            CHECK.holds("the source has the word " + word, !Pattern.compile("\\b" + word + "\\b").matcher(code).find());
        }
        CHECK.holds("the source has a lambda", !code.contains("->"));
        CHECK.holds("the source has a method reference", !code.contains("::"));
        CHECK.holds("the source has a static block", !Pattern.compile("static\\s*\\{").matcher(code).find());
        CHECK.holds("the source has an endless loop", !Pattern.compile("while\\s*\\(\\s*true|for\\s*\\(\\s*;\\s*;").matcher(code).find());
        CHECK.holds("the source has another sign than 10, 32 to 126", code.chars().allMatch(c -> c == 10 || (c >= 32 && c <= 126)));
    }

    private static void libraryCalls(String code) {
        Set<String> allowed = Set.of("Math.max", "Math.min", "Integer.bitCount", "System.arraycopy");
        Matcher calls = Pattern.compile("\\b([A-Z][a-z]\\w*)\\.(\\w+)\\(").matcher(code);
        while (calls.find()) {
            String call = calls.group(1) + "." + calls.group(2);
            CHECK.holds("the source calls " + call, allowed.contains(call));
        }
        CHECK.holds("the source imports something", !Pattern.compile("\\bimport\\b").matcher(code).find());
    }

    private static void rule11MethodLengths(String source) {
        String[] lines = source.split("\n");
        Pattern head = Pattern.compile("^(    |        )\\w[\\w\\[\\] ]+\\([^)]*\\) \\{$");
        for (int i = 0; i < lines.length; i++) {
            Matcher m = head.matcher(lines[i]);
            if (m.matches()) {
                int end = i;
                while (!lines[end].equals(m.group(1) + "}")) {
                    end++;
                }
                CHECK.holds("the method of line " + (i + 1) + " is longer than sixty lines", end - i <= 60);
            }
            CHECK.holds("line " + (i + 1) + " is longer than 130 signs", lines[i].length() <= 130);
        }
    }
}
