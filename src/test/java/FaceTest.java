import java.io.IOException;
import java.lang.reflect.Constructor;
import java.lang.reflect.Field;
import java.lang.reflect.Method;
import java.lang.reflect.Modifier;
import java.nio.file.Files;
import java.nio.file.Path;
import java.util.ArrayList;
import java.util.Arrays;
import java.util.List;
import java.util.TreeSet;
import java.util.regex.Matcher;
import java.util.regex.Pattern;

/** The document's public face, to the letter, and those rules of LANGUAGE.md that a text can show. */
public final class FaceTest {
    private static final String[] FACE = {
        "boolean begin(int)", "boolean drop(int)", "boolean hasTurn()",
        "boolean keeps(int,int,int,int,int,int)", "boolean ranked()", "boolean ranks(int,int,int,int)",
        "int least(int,int,int,int,int,int)", "int number(int,int)",
        "int rule(int,int,int,int,int,int,int)", "int rules()", "long bottom()", "long top()"};
    private static final String[] FORBIDDEN_WORDS = {
        "throw", "throws", "try", "catch", "synchronized", "assert", "package", "protected", "native",
        "volatile", "double", "float", "Object", "Exception", "Random", "System\\.(?!arraycopy)\\w+",
        "\\w+Exact", "->", "::", "static\\s*\\{", "instanceof"};
    private static final String[] LIBRARY = {
        "Arrays.fill", "System.arraycopy", "Math.min", "Math.max", "Math.abs", "Long.bitCount"};
    private static int wrong = 0;

    public static void main(String[] args) throws IOException {
        checkMembers();
        checkNestedClasses();
        checkSource(Files.readString(Path.of("src/main/java/RankFinder.java")));
        System.out.println(wrong == 0 ? "the face is as due" : wrong + " faults");
        System.exit(wrong == 0 ? 0 : 1);
    }

    private static void checkMembers() {
        Class<?> type = RankFinder.class;
        hold("public and final", Modifier.isPublic(type.getModifiers())
                && Modifier.isFinal(type.getModifiers()));
        TreeSet<String> seen = new TreeSet<>();
        List<String> privateNames = new ArrayList<>();
        for (Method method : type.getDeclaredMethods()) {
            if (Modifier.isPrivate(method.getModifiers())) {
                privateNames.add(method.getName());
            } else {
                hold("public, not static: " + method, Modifier.isPublic(method.getModifiers())
                        && !Modifier.isStatic(method.getModifiers()));
                String parameters = Arrays.toString(method.getParameterTypes()).replaceAll("[\\[\\] ]", "");
                seen.add(method.getReturnType() + " " + method.getName() + "(" + parameters + ")");
            }
            hold("seven parameters at most: " + method, method.getParameterCount() <= 7);
        }
        hold("methods are " + seen, seen.equals(new TreeSet<>(Arrays.asList(FACE))));
        for (String name : privateNames) {
            checkPrivateName(name);
        }
        Constructor<?>[] constructors = type.getDeclaredConstructors();
        hold("one public constructor", constructors.length == 1
                && Modifier.isPublic(constructors[0].getModifiers())
                && constructors[0].getParameterCount() == 0);
        for (Field field : type.getDeclaredFields()) {
            checkField(field);
        }
    }

    private static void checkPrivateName(String name) {
        hold("no public name: " + name, !String.join(" ", FACE).contains(" " + name + "("));
    }

    private static void checkField(Field field) {
        int modifiers = field.getModifiers();
        if (field.getName().equals("NONE")) {
            hold("NONE is a public constant", field.getType() == int.class && RankFinder.NONE == -1
                    && Modifier.isPublic(modifiers) && Modifier.isStatic(modifiers));
        } else {
            hold("private: " + field, Modifier.isPrivate(modifiers));
        }
        hold("static means final: " + field, !Modifier.isStatic(modifiers) || Modifier.isFinal(modifiers));
    }

    private static void checkNestedClasses() {
        for (Class<?> nested : RankFinder.class.getDeclaredClasses()) {
            hold("static: " + nested, Modifier.isStatic(nested.getModifiers()));
            hold("not public: " + nested, !Modifier.isPublic(nested.getModifiers()));
            for (Field field : nested.getDeclaredFields()) {
                hold("private: " + field, Modifier.isPrivate(field.getModifiers()));
                hold("static means final: " + field, !Modifier.isStatic(field.getModifiers())
                        || Modifier.isFinal(field.getModifiers()));
            }
            for (Method method : nested.getDeclaredMethods()) {
                checkPrivateName(method.getName());
                hold("seven parameters at most: " + method, method.getParameterCount() <= 7);
            }
        }
    }

    private static void checkSource(String source) {
        hold("plain characters", source.chars().allMatch(c -> c < 128));
        String code = source.replaceAll("(?s)/\\*.*?\\*/", " ").replaceAll("//[^\n]*", " ");
        for (String word : FORBIDDEN_WORDS) {
            String pattern = Character.isLetter(word.charAt(0)) ? "\\b" + word + "\\b" : word;
            hold("not there: " + word, !Pattern.compile(pattern).matcher(code).find());
        }
        Matcher calls = Pattern.compile("\\b(Arrays|System|Math|Long|Integer)\\.\\w+").matcher(code);
        while (calls.find()) {
            hold("of the library: " + calls.group(), Arrays.asList(LIBRARY).contains(calls.group()));
        }
        Matcher imports = Pattern.compile("import ([\\w.]+);").matcher(code);
        while (imports.find()) {
            hold("import " + imports.group(1), imports.group(1).equals("java.util.Arrays"));
        }
        hold("each while and for is counted", !Pattern.compile("\\bwhile\\b|for \\(;").matcher(code).find());
    }

    private static void hold(String what, boolean holds) {
        if (!holds) {
            wrong++;
            System.out.println("does not hold: " + what);
        }
    }
}
