import java.io.IOException;
import java.nio.file.DirectoryStream;
import java.nio.file.Files;
import java.nio.file.Path;
import java.util.ArrayList;
import java.util.List;

/** README.md: its example is run as it stands there, its store is one, and it names every call and every test. */
public final class ReadmeTest {
    private static final Path README = Path.of("README.md");
    private static final Path OWN = Path.of("src/test/java/ReadmeTest.java");

    public static void main(String[] args) throws IOException {
        String page = Files.readString(README);
        example();
        List<String> told = between(README, "```java", "```");
        Due.is("the page has an example", told.size() > 5, true);
        Due.is("the example of the page is the one that is run here", told.equals(between(OWN, "// README", "// END")), true);
        storeOfThePage(page);
        for (String name : Calls.NAMES) {
            Due.is("the page names " + name, page.contains("`" + name + "("), true);
        }
        try (DirectoryStream<Path> tests = Files.newDirectoryStream(Path.of("src/test/java"), "*Test.java")) {
            for (Path test : tests) {
                String name = test.getFileName().toString().replace(".java", "");
                Due.is("the page names " + name, page.contains("| " + name + " |"), true);
            }
        }
        Due.ends("ReadmeTest");
    }

    private static void example() {
        // README
        PieceStore x = new PieceStore();
        x.feed(0x626f7820, 0x36303b6c, 0x65617374, 0x20313b20, 0x20202020); // "box 60;least 1;"
        x.end(15);
        int statements = x.store(); // 2; NONE with a fault: x.fault(0) is its kind, x.fault(1) its place
        x.feed(0x74686520, 0x69636520, 0x6f662074, 0x6865206c, 0x616b6520); // "the ice of the lake "
        x.end(19); // without the last blank
        int backup = x.save(); // 0
        int pieces = x.backup(backup, 2); // 5: "the", " ", "ice ", "of the ", "lake"
        int octet = x.octet(backup, 4); // 105, 'i'
        boolean broken = x.smash(0); // true: the box that all of it lies in
        int cause = x.why(backup, 1); // 1: the box is broken
        boolean undone = x.undo(); // true: it can be read again
        // END
        Due.is("statements", statements, 2);
        Due.is("backup", backup, 0);
        Due.is("pieces", pieces, 5);
        Due.is("octet", octet, 'i');
        Due.is("broken", broken, true);
        Due.is("cause", cause, 1);
        Due.is("undone", undone, true);
        Due.is("read again", x.why(backup, 0), PieceStore.NONE);
    }

    private static void storeOfThePage(String page) {
        int from = page.indexOf("\n    box ");
        Due.is("the page has a store", from >= 0, true);
        if (from >= 0) {
            String text = page.substring(from, page.indexOf('\n', from + 1)).trim();
            PieceStore x = new PieceStore();
            for (int[] five : Calls.feeds(text)) {
                x.feed(five[0], five[1], five[2], five[3], five[4]);
            }
            x.end(text.length());
            Due.is("the store of the page, its statements", x.store(), text.chars().filter(c -> c == ';').count());
        }
    }

    /** The lines between the first two that are these, without the blanks around them. */
    private static List<String> between(Path file, String begin, String end) throws IOException {
        List<String> found = new ArrayList<>();
        boolean open = false;
        for (String line : Files.readAllLines(file)) {
            String bare = line.trim();
            if (open && bare.equals(end)) {
                return found;
            }
            if (open) {
                found.add(bare);
            }
            open = open || bare.equals(begin);
        }
        return found;
    }
}
