import java.nio.file.Files;
import java.nio.file.Path;

/** The example of README.md answers what README.md says. Run from the project's folder. */
public final class ReadmeTests {
    private static final Due due = new Due();

    public static void main(String[] args) throws Exception {
        example();
        exampleIsThatOfReadme();
        due.end();
    }

    private static void example() {
        OrchardBook book = new OrchardBook();
        int early = book.sort(50, 4, 60, 3, 0);
        int late = book.sort(60, 3, 40, 5, 0);
        due.is("sort 0", early, 0);
        due.is("sort 1", late, 1);
        due.is("takes", book.takes(early, late, true), 1);
        due.is("plant", book.plant(0, 1, early, 0), 1);
        due.is("plant", book.plant(1, 1, late, 0), 1);
        due.is("hours", book.hours(5), 0);
        due.is("blooms", book.blooms(early), 6);
        due.is("partners", book.partners(0, 0, 7), 1);
        due.is("go", book.go(50), 50);
        due.is("set", book.all(0), 15);
        due.is("picked", book.all(2), 13);
        due.is("dropped", book.all(3), 2);
    }

    /** Each call of README's example stands above, so that the two cannot part. */
    private static void exampleIsThatOfReadme() throws Exception {
        String own = Files.readString(Path.of("src/test/java/ReadmeTests.java"));
        String readme = Files.readString(Path.of("README.md"));
        int start = readme.indexOf("```java\n") + 8;
        int end = readme.indexOf("```", start);
        due.holds("README.md has an example", start >= 8 && end > start);
        for (String line : readme.substring(start, Math.max(start, end)).split("\n")) {
            String call = line.replaceAll("\\s*//.*", "").replaceAll(";$", "");
            due.holds("README.md has another call: " + call, own.contains(call));
        }
    }
}
