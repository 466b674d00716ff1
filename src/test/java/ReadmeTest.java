import java.io.IOException;
import java.nio.file.Files;
import java.nio.file.Path;
import java.util.List;

/** The example of README.md answers what its comments say. It is to be run from the project's folder. */
public final class ReadmeTest {
    private static final String FENCE = "```";

    private static final WorkBoard BOARD = new WorkBoard();

    private static List<String> example = List.of();
    /** The line of the example that is the next one to be compared. */
    private static int line = 0;

    public static void main(String[] args) throws IOException {
        example = exampleOf(Files.readAllLines(Path.of("README.md")));
        Due.yes("it begins with a new board", nextCall().equals("WorkBoard board = new WorkBoard();"));
        line++;
        told("board.columns(2);", BOARD.columns(2));
        told("board.column(0, 1, 0, 1);", BOARD.column(0, 1, 0, 1));
        answered("int first = board.card(0, false);", BOARD.card(0, false));
        answered("int second = board.card(0, false);", BOARD.card(0, false));
        told("board.waits(second, first);", BOARD.waits(1, 0));
        answered("board.told(second, 1, false);", BOARD.told(1, 1, false));
        answered("board.told(second, 3, false);", BOARD.told(1, 3, false));
        answered("board.at(second, 2, false);", BOARD.at(1, 2, false));
        answered("board.length(2, false);", BOARD.length(2, false));
        told("board.other(0, 0, 0);", BOARD.other(0, 0, 0));
        answered("board.differ();", BOARD.differ());
        answered("board.length(1, true);", BOARD.length(1, true));
        answered("board.best(2);", BOARD.best(2));
        answered("board.bestLimit(2, 0);", BOARD.bestLimit(2, 0));
        Due.same("lines of the example", example.size(), line);
        Due.end("ReadmeTest");
    }

    private static List<String> exampleOf(List<String> readme) {
        int from = readme.indexOf(FENCE + "java") + 1;
        int to = from;
        while (to < readme.size() && !readme.get(to).equals(FENCE)) {
            to++;
        }
        return readme.subList(from, to);
    }

    private static void told(String call, boolean got) {
        Due.yes("the example has " + call, nextCall().equals(call));
        Due.yes(call, got);
        line++;
    }

    private static void answered(String call, int got) {
        Due.yes("the example has " + call, nextCall().equals(call));
        Due.same(call + " as the comment says", got, numberOfComment());
        line++;
    }

    private static String nextCall() {
        return part(0).trim();
    }

    /** The comment begins with the answer, and perhaps a colon behind it. */
    private static int numberOfComment() {
        String number = part(1).trim().split(":")[0];
        return number.matches("-?[0-9]{1,6}") ? Integer.parseInt(number) : Integer.MIN_VALUE;
    }

    private static String part(int i) {
        if (line >= example.size()) {
            return "";
        }
        String[] parts = example.get(line).split("//");
        return i < parts.length ? parts[i] : "";
    }
}
