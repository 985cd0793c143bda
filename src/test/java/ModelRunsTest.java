import java.io.IOException;
import java.nio.file.Files;
import java.nio.file.Path;
import java.util.NoSuchElementException;

/** Long runs through all promises; their answers come from a second program with the same readings of the document. */
public final class ModelRunsTest {
    public static void main(String[] args) throws IOException {
        Check c = new Check("runs");
        int line = 0;
        for (String text : Files.readAllLines(Path.of("src/test/data/runs.txt"))) {
            line++;
            if (text.equals("new")) {
                c.fresh();
                continue;
            }
            int cut = text.lastIndexOf(" = ");
            String call = text.substring(0, cut);
            c.due("line " + line + ": " + call, answer(c, call), text.substring(cut + 3));
        }
        c.due("lines were there", line > 1000, true);
        c.end();
    }

    private static String answer(Check c, String call) {
        if (call.startsWith("put ") || call.startsWith("ask ")) {
            c.type(call.substring(4).replace('|', '\n'));
        }
        String[] words = call.split(" ");
        try {
            return Integer.toString(value(c.x, words));
        } catch (IllegalArgumentException e) {
            return "IAE";
        } catch (NoSuchElementException e) {
            return "NSE";
        } catch (IndexOutOfBoundsException e) {
            return "IOB";
        }
    }

    private static int value(EdgeHouse x, String[] w) {
        switch (w[0]) {
            case "put":
                return x.update();
            case "ask":
                return x.ask();
            case "fault":
                return x.fault();
            case "settle":
                return x.settle();
            case "drop":
                return x.drop(number(w, 1)) ? 1 : 0;
            case "deliver":
                return x.deliver(number(w, 1)) ? 1 : 0;
            case "lose":
                return x.lose(number(w, 1)) ? 1 : 0;
            case "fail":
                return x.fail(number(w, 1)) ? 1 : 0;
            case "back":
                return x.back(number(w, 1)) ? 1 : 0;
            case "tick":
                return x.tick(number(w, 1));
            case "total":
                return x.total(number(w, 1));
            case "purge":
                return x.purge(number(w, 1), number(w, 2));
            case "budget":
                return x.budget(number(w, 1), number(w, 2)) ? 1 : 0;
            case "answer":
                return x.answer(number(w, 1), number(w, 2));
            case "letter":
                return x.letter(number(w, 1), number(w, 2));
            case "node":
                return x.node(number(w, 1), number(w, 2));
            case "message":
                return x.message(number(w, 1), number(w, 2));
            case "entry":
                return x.entry(number(w, 1), number(w, 2), number(w, 3), number(w, 4), number(w, 5));
            default:
                throw new IllegalStateException("no such call: " + w[0]);
        }
    }

    private static int number(String[] words, int i) {
        return Integer.parseInt(words[i]);
    }
}
