import java.io.IOException;
import java.lang.reflect.Constructor;
import java.lang.reflect.Field;
import java.lang.reflect.Method;
import java.lang.reflect.Modifier;
import java.nio.file.Files;
import java.nio.file.Path;
import java.util.HashSet;
import java.util.List;
import java.util.Set;
import java.util.TreeSet;
import java.util.regex.Matcher;
import java.util.regex.Pattern;

/** What of LANGUAGE.md can be seen in the source's words and in the class file. */
public final class LanguageTests {
    private static final int MOST_LINES = 60, MOST_PARAMETERS = 7, MOST_CLASSES = 12, MOST_FIELDS = 20;
    private static final List<String> FORBIDDEN = List.of(
        "throw", "try", "catch", "finally", "synchronized", "assert", "import", "package", "volatile", "native",
        "->", "::", "System.currentTimeMillis", "System.nanoTime", "Random", "Thread", "hashCode", "toString",
        "Exact(");

    private static int passed;
    private static int failed;

    private static void due(String what, Object got, Object want) {
        if (got.equals(want)) {
            passed++;
        } else {
            failed++;
            System.out.println(what + " is " + got + ", due is " + want);
        }
    }

    public static void main(String[] args) throws IOException {
        String source = Files.readString(Path.of(args.length > 0 ? args[0] : "src/main/java/LoserKeepsTheBoard.java"));
        words(bare(source));
        methodsAreShort(source);
        faceIsTheDocuments();
        classesAreSmall();
        System.out.println("LanguageTests: " + passed + " passed, " + failed + " failed");
        if (failed != 0) {
            System.exit(1);
        }
    }

    /** The source without comments and without what stands in quotes. */
    private static String bare(String source) {
        return source.replaceAll("(?s)/\\*.*?\\*/", "").replaceAll("//[^\n]*", "").replaceAll("\"[^\"\n]*\"", "\"\"");
    }

    private static void words(String bare) {
        for (String word : FORBIDDEN) {
            boolean isWord = Character.isLetter(word.charAt(0)) && Character.isLetter(word.charAt(word.length() - 1));
            String pattern = isWord ? "\\b" + Pattern.quote(word) + "\\b" : Pattern.quote(word);
            due("use of " + word, Pattern.compile(pattern).matcher(bare).find(), false);
        }
        for (char c : bare.toCharArray()) {
            if (c > 126 || c < 32 && c != '\n') {
                due("a sign", (int) c, 32);
            }
        }
    }

    private static void methodsAreShort(String source) {
        Matcher heads = Pattern.compile("(?m)^( {4}| {8})(?!(?:private |static |final )*class )[a-zA-Z][^;={}]*\\) \\{$")
            .matcher(source);
        while (heads.find()) {
            int end = source.indexOf("\n" + heads.group(1) + "}", heads.start());
            long lines = source.substring(heads.start(), end).lines().count() + 1;
            due(heads.group().trim() + " short enough", lines <= MOST_LINES, true);
        }
    }

    private static void faceIsTheDocuments() {
        Set<String> names = new TreeSet<>();
        for (Method method : LoserKeepsTheBoard.class.getDeclaredMethods()) {
            boolean isPublic = Modifier.isPublic(method.getModifiers());
            due(method.getName() + " is public or private", isPublic || Modifier.isPrivate(method.getModifiers()), true);
            if (isPublic) {
                names.add(method.getName() + method.getParameterCount() + method.getReturnType());
            }
        }
        due("the face", names, new TreeSet<>(List.of("set3int", "player2int", "told2int", "asks3int", "feed1int",
            "text0int", "force1int", "game2int", "evening2int", "play1int", "robin1int", "best2int", "order2int",
            "all1int", "soon2int", "tells3int", "film2int", "drawn3int", "chance5long", "image0int", "back0int",
            "count1int", "sheet3int", "cell3int", "copy5int", "players4int", "taken2int")));
        Set<String> fields = new TreeSet<>();
        for (Field field : LoserKeepsTheBoard.class.getDeclaredFields()) {
            boolean isPublic = Modifier.isPublic(field.getModifiers());
            due(field.getName() + " is public or private", isPublic || Modifier.isPrivate(field.getModifiers()), true);
            if (isPublic) {
                fields.add(field.getName());
            }
        }
        due("the constants", fields, new TreeSet<>(List.of("NONE", "BAD", "STATE", "FULL", "NO")));
        due("constructors", LoserKeepsTheBoard.class.getDeclaredConstructors().length, 1);
    }

    private static void classesAreSmall() {
        Set<String> publicNames = new HashSet<>();
        for (Method method : LoserKeepsTheBoard.class.getMethods()) {
            publicNames.add(method.getName());
        }
        Class<?>[] inside = LoserKeepsTheBoard.class.getDeclaredClasses();
        due("few classes", inside.length < MOST_CLASSES, true);
        isSmall(LoserKeepsTheBoard.class);
        for (Class<?> one : inside) {
            due(one + " is static", Modifier.isStatic(one.getModifiers()), true);
            isSmall(one);
            for (Method method : one.getDeclaredMethods()) {
                due(method + " has a name of its own", publicNames.contains(method.getName()), false);
            }
        }
    }

    private static void isSmall(Class<?> one) {
        int fields = 0;
        for (Field field : one.getDeclaredFields()) {
            boolean isStatic = Modifier.isStatic(field.getModifiers());
            fields += isStatic ? 0 : 1;
            due(field + " is final, if it is static", !isStatic || Modifier.isFinal(field.getModifiers()), true);
        }
        due(one + " has few fields", fields <= MOST_FIELDS, true);
        for (Method method : one.getDeclaredMethods()) {
            due(method + " takes few", method.getParameterCount() <= MOST_PARAMETERS, true);
        }
        for (Constructor<?> constructor : one.getDeclaredConstructors()) {
            due(constructor + " takes few", constructor.getParameterCount() <= MOST_PARAMETERS, true);
        }
    }
}
