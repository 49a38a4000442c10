import java.io.IOException;
import java.nio.charset.StandardCharsets;
import java.nio.file.Files;
import java.nio.file.Path;

/** The calls that README.md shows: that they stand there with these answers, and that they answer so. */
public final class ReadmeTest extends Calls {
    private static String[] shown;
    private static int at = 0;

    /** The next line that README.md shows is this call, with this answer behind it. */
    private static void next(String call, Object answer, Call real) {
        String line = at < shown.length ? shown[at] : "nothing";
        at++;
        String[] parts = line.split("; *// ");
        String told = parts.length < 2 ? "nothing" : parts[1].split(":")[0];
        about("README.md, line " + at + " of its calls: " + line);
        is("board." + call, () -> parts[0]);
        is(answer.toString(), () -> told);
        is(answer, real);
    }

    public static void main(String[] args) throws IOException {
        String text = Files.readString(Path.of("README.md"), StandardCharsets.UTF_8);
        String code = text.substring(text.indexOf("```java\n") + 8);
        shown = code.substring(0, code.indexOf("```")).split("\n");
        about("README.md");
        is("TurnBoard board = new TurnBoard();", () -> shown[0]);
        at = 1;
        calls(new TurnBoard());
        is(shown.length, () -> at);
        finish("ReadmeTest");
    }

    private static void calls(TurnBoard board) {
        next("feed(0x73697a65, 0x20322032, 0, 0, 0)", 20, () -> board.feed(0x73697a65, 0x20322032, 0, 0, 0));
        next("end(8)", true, () -> board.end(8));
        next("board()", 1, board::board);
        next("set(0, 0, false, 1)", 0, () -> board.set(0, 0, false, 1));
        next("round(0, 0)", 1, () -> board.round(0, 0));
        next("sum()", 16, board::sum);
        next("undo()", true, board::undo);
        next("feed(0x66726f6d, 0x20302030, 0x3b322065, 0x61737400, 0)", 20,
                () -> board.feed(0x66726f6d, 0x20302030, 0x3b322065, 0x61737400, 0));
        next("end(15)", true, () -> board.end(15));
        next("walk(2)", 2, () -> board.walk(2));
    }
}
