import java.io.IOException;
import java.nio.file.Files;
import java.nio.file.Path;
import java.util.Set;
import java.util.TreeSet;
import java.util.regex.Matcher;
import java.util.regex.Pattern;

/** What README.md says: the answers in its examples, the codes, and each promise's method, error codes and record. */
public final class ReadmeTest {
    private static final String[] CODES = {"BAD_INDEX", "BAD_VALUE", "BAD_STATE", "FULL"};

    public static void main(String[] args) throws IOException {
        String page = Files.readString(Path.of("README.md"));
        String document = Files.readString(Path.of("../shared/DOC.md"));
        examples(page);
        codes(page);
        methods(page, document);
        Due.end();
    }

    private static void examples(String page) {
        BookRental x = new BookRental();
        line(page, "x.addTitle(10000, 3);", x.addTitle(10000, 3));
        line(page, "x.addCourse(0, 2, 25);", x.addCourse(0, 2, 25));
        line(page, "x.buy(0, 3);", x.buy(0, 3));
        line(page, "x.rent(0, 0);", x.rent(0, 0));
        line(page, "x.customer(0, 2);", x.customer(0, 2));
        line(page, "x.pass(105);", x.pass(105));
        line(page, "x.charge(0, 2, 2);", x.charge(0, 2, 2));
        line(page, "x.giveBack(0, 2);", x.giveBack(0, 2));
        line(page, "x.sell(1);", x.sell(1));
        line(page, "x.sell(1);", x.sell(1));
        line(page, "x.offer(0, 2, 1);", x.offer(0, 2, 1));
        line(page, "x.buyBack(0, 2, 1);", x.buyBack(0, 2, 1));
        line(page, "x.book(7);", x.book(7));
        line(page, "x.undo();", x.undo());
        Due.isTrue("the text of the example", page.contains("String text = \"rent 1 0; wait 10\";"));
        Due.type(x, "rent 1 0; wait 10");
        line(page, "x.textFault();", x.textFault());
        line(page, "x.orders();", x.orders());
        Due.is("calls in the examples", page.lines().filter(line -> line.matches("x\\..*;\\s+// .*")).count(), 16);
    }

    private static void line(String page, String call, long answer) {
        boolean stands = page.lines().anyMatch(line -> line.startsWith(call) && line.matches(".*;\\s+// " + answer + ": .*"));
        Due.isTrue("README.md says " + answer + " of " + call, stands);
    }

    private static void codes(String page) {
        int[] answers = {BookRental.NONE, BookRental.BAD_INDEX, BookRental.BAD_VALUE, BookRental.BAD_STATE, BookRental.FULL};
        String[] names = {"NONE", "BAD_INDEX", "BAD_VALUE", "BAD_STATE", "FULL"};
        for (int i = 0; i < names.length; i++) {
            Due.isTrue("README.md tells " + names[i], page.contains("| " + answers[i] + " | `" + names[i] + "` | "));
        }
    }

    /** Each promise with a method has a row; its codes and its star are those of the document. */
    private static void methods(String page, String document) {
        String[] promises = document.split("## Promise \\d+: ");
        Due.is("promises", promises.length - 1, 32);
        for (int i = 2; i < promises.length; i++) {
            Matcher face = Pattern.compile("`(?:int|long) (\\w+)\\((.*)\\)`").matcher(promises[i]);
            Due.isTrue("promise " + i + " has a method", face.find());
            String call = face.group(1) + "(" + face.group(2).replace("int ", "") + ")";
            String row = page.lines().filter(line -> line.startsWith("| `" + call + "`")).findFirst().orElse("");
            Due.isTrue("README.md has a row for " + call, !row.isEmpty());
            Due.isTrue("the star of " + call, row.startsWith("| `" + call + "` * |") == promises[i].contains("Recorded"));
            Due.isTrue("the codes of " + call, named(row).equals(named(promises[i].split("## Not promised")[0])));
        }
    }

    private static Set<String> named(String text) {
        Set<String> found = new TreeSet<>();
        for (String code : CODES) {
            if (text.contains(code)) {
                found.add(code);
            }
        }
        return found;
    }
}
