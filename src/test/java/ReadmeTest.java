import java.io.ByteArrayOutputStream;
import java.io.IOException;
import java.io.PrintStream;
import java.lang.reflect.Method;
import java.nio.charset.StandardCharsets;
import java.nio.file.Files;
import java.nio.file.Path;
import java.util.List;
import java.util.stream.Stream;

/** The example that README.md shows gives the answers that the document asks for. */
public final class ReadmeTest {
    /** What the example prints, worked out from the document. */
    private static final String[] DUE = {
        // Fen has 5 units; ann's claim on it is 5, so that 1 left lets ann finish first.
        "4 of fen for ann, granted: true",
        "2 of fen for bob, granted: false",
        // With none of fen left only cid can finish, who holds nothing.
        "why dot would not get 1 of fen: 4",
        "first herd of the queue: 1",
        "requests granted as ann gives 2 back: 1",
        "first herd of the queue: -1",
        "coins that eve owes dot: 8",
        "a cycle of debts is refused, its length: 2",
        // Ann is not waiting, so that "cancel ann" would throw.
        "commands before the first one that throws: 2",
        "coins that bob owes ann: 3",
        // Two requests, the release and the loan; the script was the fifth change.
        "changes left when the script is undone: 4",
        "coins that bob owes ann: 0",
        "error code: 3",
        "error position: 7",
        "waiting herds as the state is saved: 0",
        "allocations without ann's: ann:0,0,0 bob:0,2,0 cid:0,0,0 dot:0,0,0 eve:0,0,0",
        "allocations restored: ann:0,2,0 bob:0,2,0 cid:0,0,0 dot:0,0,0 eve:0,0,0",
        "herds of the new setup: 2",
        "error code: 0",
        "error position: -1",
        "number of herd lou: 1",
        "bytes left: 0",
        "allocations: kim:0 lou:0"};

    public static void main(String[] args) throws IOException {
        String readme = Files.readString(Path.of("README.md"));
        String due = String.join("\n", DUE);
        String program = Files.readString(Path.of("src/test/java/Example.java"));
        Check.due("the example prints", due, ReadmeTest::printed);
        Check.due("README.md shows the example", program, () -> block(readme, "```java\n"));
        Check.due("README.md shows what it prints", due + "\n", () -> block(readme, "```text\n"));
        namesEachCall(readme);
        namesEachTest(readme);
        Check.finish("ReadmeTest");
    }

    private static String printed() {
        PrintStream screen = System.out;
        ByteArrayOutputStream printed = new ByteArrayOutputStream();
        System.setOut(new PrintStream(printed, true, StandardCharsets.UTF_8));
        try {
            Example.main(new String[0]);
        } finally {
            System.setOut(screen);
        }
        return printed.toString(StandardCharsets.UTF_8).trim().replace("\r", "");
    }

    /** What stands between the only line that opens such a block and the next that closes it. */
    private static String block(String text, String opening) {
        int from = text.indexOf(opening) + opening.length();
        return text.substring(from, text.indexOf("```", from));
    }

    private static void namesEachCall(String readme) {
        for (Method method : PastureBanker.class.getDeclaredMethods()) {
            if (java.lang.reflect.Modifier.isPublic(method.getModifiers())) {
                Check.due("README.md names " + method.getName(), true,
                        () -> readme.contains("`" + method.getName() + "`"));
            }
        }
    }

    private static void namesEachTest(String readme) throws IOException {
        List<String> tests;
        try (Stream<Path> files = Files.list(Path.of("src/test/java"))) {
            tests = files.map(file -> file.getFileName().toString().replace(".java", ""))
                    .filter(name -> name.endsWith("Test")).toList();
        }
        for (String test : tests) {
            Check.due("README.md tells what " + test + " looks at", true,
                    () -> readme.contains("- `" + test + "`: "));
        }
    }
}
