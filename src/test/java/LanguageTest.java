import java.lang.reflect.Constructor;
import java.lang.reflect.Field;
import java.lang.reflect.Method;
import java.lang.reflect.Modifier;
import java.nio.file.Files;
import java.nio.file.Path;
import java.util.Arrays;
import java.util.List;
import java.util.Set;
import java.util.TreeSet;
import java.util.regex.Matcher;
import java.util.regex.Pattern;

/** The public face of the document, and the rules of LANGUAGE.md that can be seen in the source. */
public final class LanguageTest {
    private static final String[] FACE = {"feed(int)", "common()", "fault()", "told(int)", "gate(int,int)",
        "person(int,int)", "likes(int,int)", "logged(int)", "hour(int)", "come(int,int)", "goOff(int)", "hole(int)",
        "oil(int)", "well(int)", "drift(int)", "undo()", "atOnce(int)", "sides(int,int)", "steady()", "loves(int)",
        "first()", "dies(int)", "oilFor(int)", "evening(int)", "dry(int,int)", "ill(int,boolean)", "mayBe()", "ask()",
        "write(int,int)", "tear()", "judge()", "seed(int)", "keep(int)", "goBack(int)"};
    private static final String[] FORBIDDEN = {"throw", "throws", "try", "catch", "synchronized", "assert", "protected",
        "static \\{", "->", "::", "Exact\\(", "package", "double", "float", "System\\.(?!arraycopy)", "equals\\(",
        "hashCode", "toString", "Thread", "Random", "@"};

    public static void main(String[] args) throws Exception {
        publicFace();
        membersAreHidden();
        nestedClasses();
        String source = withoutComments(Files.readString(Path.of("src/main/java/KissGates.java")));
        forbiddenWords(source);
        imports(source);
        methods(source);
        Due.end("LanguageTest");
    }

    private static void publicFace() {
        Set<String> due = new TreeSet<>(Arrays.asList(FACE));
        Set<String> found = new TreeSet<>();
        for (Method method : KissGates.class.getDeclaredMethods()) {
            if (Modifier.isPublic(method.getModifiers())) {
                Due.holds(method + " answers an int", method.getReturnType() == int.class);
                String types = Arrays.toString(method.getParameterTypes());
                found.add(method.getName() + "(" + types.substring(1, types.length() - 1).replace(" ", "") + ")");
            }
        }
        Due.holds("the face is " + found, found.equals(due));
        Due.holds("final and public", Modifier.isFinal(KissGates.class.getModifiers())
            && Modifier.isPublic(KissGates.class.getModifiers()));
        Constructor<?>[] made = KissGates.class.getDeclaredConstructors();
        Due.holds("one constructor", made.length == 1 && made[0].getParameterCount() == 0
            && Modifier.isPublic(made[0].getModifiers()));
    }

    private static void membersAreHidden() {
        List<String> constants = List.of("NONE", "UNKNOWN", "OUTSIDE", "NOT", "FULL");
        for (Field field : KissGates.class.getDeclaredFields()) {
            int how = field.getModifiers();
            Due.holds(field + " is private or a constant of the face",
                Modifier.isPrivate(how) || (constants.contains(field.getName()) && Modifier.isPublic(how)));
            Due.holds(field + ": static fields are final", !Modifier.isStatic(how) || Modifier.isFinal(how));
        }
        Set<String> names = new TreeSet<>();
        for (String member : FACE) {
            names.add(member.substring(0, member.indexOf('(')));
        }
        for (Method method : KissGates.class.getDeclaredMethods()) {
            int how = method.getModifiers();
            Due.holds(method + " is public or private", Modifier.isPublic(how) || Modifier.isPrivate(how));
            Due.holds(method + ": a private one has a name of its own",
                !Modifier.isPrivate(how) || !names.contains(method.getName()));
        }
        for (Class<?> inside : KissGates.class.getDeclaredClasses()) {
            for (Method method : inside.getDeclaredMethods()) {
                Due.holds(method + " has a name of its own", !names.contains(method.getName()));
            }
        }
    }

    private static void nestedClasses() {
        Class<?>[] classes = KissGates.class.getDeclaredClasses();
        Due.holds("twelve classes at most", classes.length <= 11);
        for (Class<?> inside : classes) {
            Due.holds(inside + " is static", Modifier.isStatic(inside.getModifiers()));
            Due.holds(inside + " is not public", !Modifier.isPublic(inside.getModifiers()));
            Due.holds(inside + " has twenty fields at most", variables(inside) <= 20);
        }
        Due.holds("KissGates has twenty fields at most", variables(KissGates.class) <= 20);
    }

    private static int variables(Class<?> of) {
        int count = 0;
        for (Field field : of.getDeclaredFields()) {
            count += Modifier.isStatic(field.getModifiers()) ? 0 : 1;
        }
        return count;
    }

    private static String withoutComments(String source) {
        return source.replaceAll("(?s)/\\*.*?\\*/", "").replaceAll("//[^\n]*", "");
    }

    private static void forbiddenWords(String source) {
        for (String word : FORBIDDEN) {
            String pattern = Character.isLetter(word.charAt(0)) ? "\\b" + word : word;
            pattern = Character.isLetter(word.charAt(word.length() - 1)) ? pattern + "\\b" : pattern;
            Due.holds("no " + word, !Pattern.compile(pattern).matcher(source).find());
        }
        for (int i = 0; i < source.length(); i++) {
            if (source.charAt(i) > 126) {
                Due.holds("letter " + i + " is plain", false);
            }
        }
    }

    private static void imports(String source) {
        Matcher matcher = Pattern.compile("import ([^;]*);").matcher(source);
        while (matcher.find()) {
            Due.holds("import " + matcher.group(1),
                List.of("java.util.Arrays", "java.util.ArrayList", "java.util.List").contains(matcher.group(1)));
        }
    }

    /** Sixty lines and seven parameters at most; objects are made by constructors and fields alone. */
    private static void methods(String source) {
        String[] lines = source.split("\n");
        Pattern head = Pattern.compile("^( {4}| {8})(?:(?:public|private|static|final) )*([\\w\\[\\]]+ )?(\\w+)\\(([^)]*)\\) \\{$");
        int found = 0;
        for (int i = 0; i < lines.length; i++) {
            Matcher matcher = head.matcher(lines[i]);
            if (!matcher.matches()) {
                continue;
            }
            found++;
            String name = matcher.group(3);
            int end = i;
            while (!lines[end].equals(matcher.group(1) + "}")) {
                end++;
                boolean makes = lines[end].matches(".*\\bnew\\b.*");
                Due.holds(name + " makes nothing unless it is a constructor", !makes || matcher.group(2) == null);
            }
            Due.holds(name + " is short", end - i <= 60);
            Due.holds(name + " takes seven at most", matcher.group(4).split(",").length <= 7);
        }
        Due.holds("methods are seen", found > FACE.length);
    }
}
