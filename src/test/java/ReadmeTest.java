import java.io.IOException;
import java.nio.file.Files;
import java.nio.file.Path;
import java.util.TreeSet;
import java.util.regex.Matcher;
import java.util.regex.Pattern;

/** What README.md says of its examples is so, and it names each call and each test. */
public final class ReadmeTest {
    public static void main(String[] args) throws IOException {
        calls();
        text();
        String page = Files.readString(Path.of("README.md"));
        names(page);
        tests(page);
        Due.end("ReadmeTest");
    }

    private static void calls() {
        InchCandle x = new InchCandle();
        Due.is("lot", x.lot(10, 80), 0);
        Due.is("early", x.bidder(0, 0, 100, 200), 0);
        Due.is("late", x.bidder(1, 2, 150, 120), 1);
        Due.is("wins(lot, 0)", x.wins(0, 0), 1);
        Due.is("wins(lot, 1)", x.wins(0, 1), 20);
        Due.is("light(lot)", x.light(0), 1);
        Due.is("ticks(60)", x.ticks(60), 10);
        Due.is("lotOf(lot, 3)", x.lotOf(0, 3), 20);
        Due.is("bidderOf(late, 3)", x.bidderOf(1, 3), 100);
    }

    private static void text() {
        InchCandle x = new InchCandle();
        String text = "lot 10 worth 80; bidder 0 value 100 purse 200; draught 3 2; step 4;";
        for (int from = 0; from < text.length(); from += 8) {
            int n = Math.min(8, text.length() - from);
            long eight = 0;
            for (int i = n - 1; i >= 0; i--) {
                eight = eight << 8 | text.charAt(from + i);
            }
            Due.is("feed", x.feed(eight, n), from + n);
        }
        Due.is("hall", x.hall(), 1);
        Due.is("a DRAUGHT that was told", x.draught(3, 0), 2);
        Due.is("STEP that was told", x.step(5), 4);
    }

    private static void names(String page) {
        TreeSet<String> told = new TreeSet<>();
        String table = page.substring(page.indexOf("| what for"), page.indexOf("Kinds of"));
        Matcher name = Pattern.compile("`(\\w+)`").matcher(table);
        while (name.find()) {
            Due.yes(name.group(1) + " is told once", told.add(name.group(1)));
        }
        TreeSet<String> face = new TreeSet<>();
        for (java.lang.reflect.Method method : InchCandle.class.getMethods()) {
            if (method.getDeclaringClass() == InchCandle.class) {
                face.add(method.getName());
            }
        }
        Due.same("calls that the page names", told.toString(), face.toString());
    }

    private static void tests(String page) throws IOException {
        try (var files = Files.list(Path.of("src/test/java"))) {
            for (Path file : files.sorted().toList()) {
                String name = file.getFileName().toString().replace(".java", "");
                Due.yes("the page names " + name, !name.endsWith("Test") || page.contains("| " + name + " |"));
            }
        }
    }
}
