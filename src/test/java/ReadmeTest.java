import java.io.IOException;
import java.lang.reflect.Method;
import java.lang.reflect.Modifier;
import java.nio.file.Files;
import java.nio.file.Path;
import java.util.ArrayList;
import java.util.List;
import java.util.TreeSet;
import java.util.regex.Matcher;
import java.util.regex.Pattern;
import java.util.stream.Stream;

/** What README.md says is true of the project as it stands; to be run where README.md lies, as .ci/run does. */
final class ReadmeTest {
    private static final Path TESTS = Path.of("src/test/java");
    private static final Due DUE = new Due();

    public static void main(String[] args) throws IOException {
        List<String> readme = Files.readAllLines(Path.of("README.md"));
        exampleStandsInThisFile(readme);
        exampleAnswersAsItSays(readme);
        textIsRead(readme);
        refusalsHaveTheirValues(readme);
        eachCallIsNamed(readme);
        eachTestIsNamed(readme);
        DUE.end();
    }

    private static int[] example() {
        // example: these lines are those of README.md
        ChairFront front = new ChairFront(100);
        int low = front.stretch(120, 0);                      // 0: the first stretch, of height 120, in zone 0
        int high = front.stretch(300, 1);                     // 1: the second, of height 300, in zone 1
        int standing = front.carry(ChairFront.NONE, low, 40); // 40: so many of the stack stand on the first now
        int beside = front.carry(ChairFront.NONE, high, 10);  // 10: and so many on the second
        int ticket = front.hire(low, 2, 3);                   // 0: the first ticket, 2 chairs for 3 hours
        int running = front.hour(30, 10, 0, 5);               // 1: so many tickets run after an hour of level 30, wind 10, sun 5
        int left = front.ticket(ticket, 2);                   // 2: hours left of the ticket
        int fed = front.feed(0x686f6c6420616e79L, 8);         // 8: bytes on the tape, "hold any"
        int tape = front.feed(';', 1);                        // 9: and its sign
        int lines = front.rules();                            // 1: so many lines were read; tickets hold anywhere now
        int shifted = front.shift(ticket, high);              // 1: the ticket is used on the second stretch from now on
        int after = front.hour(200, 0, 0, 0);                 // 1: the sea took what stood on the first; the ticket runs
        int lost = front.count(3);                            // 40: chairs that are lost
        int refused = front.hire(low, 1, 1);                  // -1000003: FULL, no chair is free there
        // end of example
        return new int[] {low, high, standing, beside, ticket, running, left, fed, tape, lines, shifted, after, lost, refused};
    }

    private static void exampleStandsInThisFile(List<String> readme) throws IOException {
        List<String> here = new ArrayList<>();
        boolean inside = false;
        for (String line : Files.readAllLines(TESTS.resolve("ReadmeTest.java"))) {
            if (line.strip().equals("// end of example")) {
                inside = false;
            }
            if (inside) {
                here.add(line.strip());
            }
            if (line.strip().startsWith("// example:")) {
                inside = true;
            }
        }
        List<String> there = block(readme, "```java");
        DUE.is("lines of the example", there.size(), here.size());
        for (int i = 0; i < Math.min(here.size(), there.size()); i++) {
            holds("the line is compiled here, too: " + there.get(i), here.get(i).equals(there.get(i).strip()));
        }
    }

    private static void exampleAnswersAsItSays(List<String> readme) {
        int[] answers = example();
        Pattern told = Pattern.compile("// (-?[0-9]+): ");
        int seen = 0;
        for (String line : block(readme, "```java")) {
            Matcher m = told.matcher(line);
            if (m.find()) {
                if (seen < answers.length) {
                    DUE.is(line, answers[seen], Integer.parseInt(m.group(1)));
                }
                seen++;
            }
        }
        DUE.is("lines with an answer", seen, answers.length);
    }

    private static void textIsRead(List<String> readme) {
        String text = String.join("\n", block(readme, "```text"));
        int lines = text.length() - text.replace(";", "").length();
        DUE.is("rules() of the text of README.md", Due.rules(new ChairFront(0), text), lines);
    }

    private static void refusalsHaveTheirValues(List<String> readme) {
        holds("BAD", readme.stream().anyMatch(l -> l.startsWith("| `BAD` | " + ChairFront.BAD + " |")));
        holds("STATE", readme.stream().anyMatch(l -> l.startsWith("| `STATE` | " + ChairFront.STATE + " |")));
        holds("FULL", readme.stream().anyMatch(l -> l.startsWith("| `FULL` | " + ChairFront.FULL + " |")));
        holds("KIND", readme.stream().anyMatch(l -> l.startsWith("| `KIND` | " + ChairFront.KIND + " |")));
        holds("NONE", readme.stream().anyMatch(l -> l.startsWith("`NONE` (" + ChairFront.NONE + ") ")));
    }

    private static void eachCallIsNamed(List<String> readme) {
        for (Method m : ChairFront.class.getDeclaredMethods()) {
            if (Modifier.isPublic(m.getModifiers())) {
                int commas = Math.max(0, m.getParameterCount() - 1);
                holds(m + " has its row, with its parameters", readme.stream().anyMatch(
                        l -> l.matches("\\| `" + m.getName() + "\\([^,)]*(, [^,)]*){" + commas + "}\\)` \\|.*")));
            }
        }
    }

    private static void eachTestIsNamed(List<String> readme) throws IOException {
        TreeSet<String> named = new TreeSet<>();
        Matcher m = Pattern.compile("\\b[A-Z][A-Za-z]*Test\\b").matcher(String.join("\n", readme));
        while (m.find()) {
            named.add(m.group());
        }
        TreeSet<String> there = new TreeSet<>();
        try (Stream<Path> files = Files.list(TESTS)) {
            files.map(f -> f.getFileName().toString()).filter(f -> f.endsWith("Test.java"))
                    .forEach(f -> there.add(f.substring(0, f.length() - ".java".length())));
        }
        holds("the tests named are those there are: " + named + ", " + there, named.equals(there));
    }

    private static void holds(String what, boolean so) {
        DUE.is("README.md: " + what, so ? 1 : 0, 1);
    }

    /** The lines of the first block that begins so. */
    private static List<String> block(List<String> readme, String fence) {
        List<String> lines = new ArrayList<>();
        int at = readme.indexOf(fence) + 1;
        while (at > 0 && at < readme.size() && !readme.get(at).equals("```")) {
            lines.add(readme.get(at));
            at++;
        }
        return lines;
    }
}
