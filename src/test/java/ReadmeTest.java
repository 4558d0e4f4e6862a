import java.io.IOException;
import java.nio.charset.StandardCharsets;
import java.nio.file.Files;
import java.nio.file.Path;
import java.util.ArrayList;
import java.util.List;

/** The example of README.md: its calls are made here, in its order, and its comments tell what they answer. */
public final class ReadmeTest {
    private static final Checks C = new Checks();
    private static final List<String> LINES = new ArrayList<>();
    private static int next;

    public static void main(String[] args) throws IOException {
        readExample();
        SemaphoreBay bay = new SemaphoreBay();
        told("SemaphoreBay bay = new SemaphoreBay();", "");
        int block = bay.block(3);
        told("int block = bay.block(3);", block);
        int route = bay.route(0, 1, block, false);
        told("int route = bay.route(0, 1, block, false);", route);
        int train = bay.train(0, 1, 0, 0);
        told("int train = bay.train(0, 1, 0, 0);", train);
        told("bay.stop(train, 1, 5);", bay.stop(train, 1, 5));
        told("bay.isOpen(train, route);", bay.isOpen(train, route));
        told("bay.doneIn(train, 100);", bay.doneIn(train, 100));
        told("bay.lostBy(block, 5);", bay.lostBy(block, 5));
        told("bay.tick(3);", bay.tick(3));
        told("bay.ofTrain(train, 5);", bay.ofTrain(train, 5));
        told("bay.ofTrain(train, 7);", bay.ofTrain(train, 7));
        told("bay.tick(2);", bay.tick(2));
        told("bay.ofTrain(train, 8);", bay.ofTrain(train, 8));
        told("bay.ofTrain(train, 4);", bay.ofTrain(train, 4));
        C.same("lines of the example", LINES.size(), next);
        C.end("ReadmeTest");
    }

    private static void readExample() throws IOException {
        boolean isWithin = false;
        for (String line : Files.readAllLines(Path.of("README.md"), StandardCharsets.UTF_8)) {
            if (line.equals("```")) {
                isWithin = false;
            }
            if (isWithin) {
                LINES.add(line);
            }
            if (line.equals("```java")) {
                isWithin = true;
            }
        }
    }

    /** The next line of the example must be the call, and its comment begin with the answer. */
    private static void told(String call, Object answer) {
        String line = next < LINES.size() ? LINES.get(next) : "";
        next++;
        int comment = line.indexOf("//");
        String code = comment < 0 ? line : line.substring(0, comment);
        String answerTold = comment < 0 ? "" : line.substring(comment + 2).split(":")[0];
        C.yes("README.md has " + call + " as '" + line + "'", code.strip().equals(call));
        C.yes("README.md tells " + call + " is " + answer + " as '" + line + "'",
                answerTold.strip().equals(answer.toString()));
    }
}
