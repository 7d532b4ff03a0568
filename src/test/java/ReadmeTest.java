import java.io.IOException;
import java.nio.file.Files;
import java.nio.file.Path;
import java.util.List;

/** The example of README.md: its lines stand there as they stand here, and answer what its comments say. */
public final class ReadmeTest {
    private static final Check CHECK = new Check();
    private static final String FENCE = "```";

    private ReadmeTest() { }

    public static void main(String[] args) throws IOException {
        example();
        sameLines();
        CHECK.finish();
    }

    private static void example() {
        PromiseCourt court = new PromiseCourt();
        int ann = court.person(PromiseCourt.NONE, PromiseCourt.NONE, 0);
        int bob = court.person(PromiseCourt.NONE, PromiseCourt.NONE, 0);
        court.feed(0x6c617073, 0x6520393b, 0x70726f6f, 0x66206966, 0x20313c32);
        court.feed(0x3b202020, 0x20202020, 0x20202020, 0x20202020, 0x20202020);
        CHECK.due("read(0, 0)", court.read(0, 0), 0);
        int promise = court.promise(ann, bob, 0, 100, 1, PromiseCourt.NONE);
        CHECK.due("in force", court.state(promise, 100, court.count(3)), 6);
        court.fate(2, bob, 200);
        CHECK.due("lapsed", court.state(promise, 209, court.count(3)), 8);
        CHECK.due("as known before", court.state(promise, 209, 0), 6);
    }

    /** Each statement of the README's first block is one of this file, so that neither changes alone. */
    private static void sameLines() throws IOException {
        String here = Files.readString(Path.of("src/test/java/ReadmeTest.java"));
        List<String> readme = Files.readAllLines(Path.of("README.md"));
        int statements = 0;
        for (int i = readme.indexOf(FENCE + "java") + 1; !readme.get(i).equals(FENCE); i++) {
            int end = readme.get(i).indexOf(';');
            if (end >= 0 && !readme.get(i).startsWith("//")) {
                String statement = readme.get(i).substring(0, end);
                CHECK.due("stands here: " + statement, here.contains(statement) ? 1 : 0, 1);
                statements++;
            }
        }
        CHECK.due("statements of the example", statements, 11);
    }
}
