import java.io.IOException;
import java.lang.reflect.Method;
import java.lang.reflect.Modifier;
import java.nio.file.Files;
import java.nio.file.Path;
import java.util.ArrayList;
import java.util.List;

/** README.md tells of each call, and its examples answer what stands beside them. */
public final class ReadmeTests {
    private static int passed;
    private static int failed;

    private ReadmeTests() {
    }

    private static void due(String what, Object got, Object want) {
        if (got.equals(want)) {
            passed++;
        } else {
            failed++;
            System.out.println("README.md: " + what + " is " + got + ", due is " + want);
        }
    }

    public static void main(String[] args) throws IOException {
        String readme = Files.readString(Path.of("README.md"));
        eachCallHasARow(readme);
        stands(readme, games());
        stands(readme, rules());
        eachTestIsNamed(readme);
        System.out.println("ReadmeTests: " + passed + " passed, " + failed + " failed");
        if (failed != 0) {
            System.exit(1);
        }
    }

    private static void eachCallHasARow(String readme) {
        for (Method method : LoserKeepsTheBoard.class.getDeclaredMethods()) {
            if (Modifier.isPublic(method.getModifiers())) {
                String row = "(?s).*\\n\\| `" + method.getName() + "\\((\\w+(, \\w+)*)?\\)` \\|.*";
                due("a row of " + method.getName(), readme.matches(row), true);
            }
        }
    }

    private static void eachTestIsNamed(String readme) throws IOException {
        try (var files = Files.list(Path.of("src/test/java"))) {
            files.forEach(file -> due("naming " + file, readme.contains(file.getFileName().toString()), true));
        }
    }

    private static void stands(String readme, List<String> lines) {
        for (String line : lines) {
            due("the line " + line, readme.contains("\n" + line + "\n"), true);
        }
    }

    private static List<String> games() {
        List<String> lines = new ArrayList<>();
        LoserKeepsTheBoard club = new LoserKeepsTheBoard();
        int ann = club.player(0, 3);
        lines.add("int ann = club.player(0, 3);             // a PLAYER with NUMBER 3: " + ann);
        int bob = club.player(2, 7);
        lines.add("int bob = club.player(2, 7);             // a BOY with NUMBER 7: " + bob);
        int was = club.set(1, 5, ann);
        lines.add("club.set(1, 5, ann);                     // THING 5 is at Ann's: " + was + " (it was in THE HALL)");
        int likely = club.asks(ann, bob, 4);
        lines.add("int likely = club.asks(ann, bob, 4);     // who would win: " + likely);
        int winner = club.game(ann, bob);
        lines.add("int winner = club.game(ann, bob);        // who won: " + winner + ", or NONE");
        int bits = club.told(bob, 6);
        lines.add("int bits = club.told(bob, 6);            // what Bob has now: " + bits);
        int refused = club.game(ann, ann);
        lines.add("int refused = club.game(ann, ann);       // " + (refused == LoserKeepsTheBoard.BAD ? "BAD" : ""));
        return lines;
    }

    private static List<String> rules() {
        List<String> lines = new ArrayList<>();
        LoserKeepsTheBoard club = new LoserKeepsTheBoard();
        String rule = "plays strong + 5 ; throws has < 1 and not theirs < 40 ; tires 2 ;";
        for (int i = 0; i < rule.length(); i++) {
            club.feed(rule.charAt(i));
        }
        lines.add("String rule = \"" + rule + "\";");
        int text = club.text();
        lines.add("int text = club.text();                  // " + text + ", or -100 less the place of its fault");
        int was = club.force(text);
        lines.add("    club.force(text);                    // " + was + ": THE RULE that was");
        return lines;
    }
}
