import java.io.IOException;
import java.lang.reflect.Method;
import java.lang.reflect.Modifier;
import java.nio.file.Files;
import java.nio.file.Path;
import java.util.stream.Stream;

/** README.md stays true: its example answers so, each call stands in its lists, each test is named. */
public final class ReadmeTest extends TestBase {
    private static final Path README = Path.of("README.md");
    private static final Path TESTS = Path.of("src/test/java");
    private static String text = "";

    public static void main(String[] args) throws IOException {
        text = Files.readString(README);
        test("README: the example", ReadmeTest::example);
        test("README: the answers below 0", ReadmeTest::below);
        test("README: the calls", ReadmeTest::calls);
        try (Stream<Path> files = Files.list(TESTS)) {
            files.sorted().forEach(ReadmeTest::named);
        }
        finish("ReadmeTest");
    }

    private static void example() {
        PlaneColumn x = new PlaneColumn();
        told("x.adds(3);", 1, x.adds(3));
        told("x.adds(1);", 2, x.adds(1));
        told("x.adds(2);", 3, x.adds(2));
        told("x.kth(0, 3, 0);", 1, x.kth(0, 3, 0));
        told("x.row(0);", 1, x.row(0));
        told("x.row(1);", 1, x.row(1));
        told("x.kth(0, 3, 3);", -2, x.kth(0, 3, 3));
        told("x.kth(0, 4, 3);", -1, x.kth(0, 4, 3));
        told("x.count(2);", 2, x.count(2));
        told("x.sign('7' << 24 | 'x' << 16 | '3' << 8);", 4, x.sign('7' << 24 | 'x' << 16 | '3' << 8));
        due(x.end(3), true);
        told("x.column();", 3, x.column());
        told("x.count(4);", 21, x.count(4));
    }

    /** The call answers so, and a line of the example says the same. */
    private static void told(String call, long want, long got) {
        due(got, want);
        boolean stands = text.lines().anyMatch(line -> line.contains(call) && line.matches(".*// " + want + "\\b.*"));
        due("a line with " + call + " and its answer: " + stands, "a line with " + call + " and its answer: true");
    }

    private static void below() {
        PlaneColumn x = new PlaneColumn();
        due(x.cuts(0), -2);
        write(x, "7x64");
        due(x.column(), 64);
        due(x.adds(7), -3);
        due(x.adds(256), PlaneColumn.NONE);
        due(x.puts(0, 7), -4);
        write(x, "7;8");
        due(x.column(), -1 - 1);
        dueThrows(x, 0);
    }

    private static void calls() {
        for (Method call : PlaneColumn.class.getDeclaredMethods()) {
            if (Modifier.isPublic(call.getModifiers())) {
                stands("| `" + call.getName() + "(");
            }
        }
    }

    private static void named(Path file) {
        test("README: the tests", () -> stands("`" + file.getFileName().toString().replace(".java", "") + "`"));
    }

    private static void stands(String words) {
        due(words + " stands: " + text.contains(words), words + " stands: true");
    }
}
