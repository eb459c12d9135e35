import java.nio.file.Files;
import java.nio.file.Path;
import java.util.List;
import java.util.regex.Matcher;
import java.util.regex.Pattern;
import java.util.stream.Stream;

/** README.md tells each method of the document's face and each test, and its example answers as it says. */
public final class ReadmeTest {
    private static final Checks CHECKS = new Checks();

    public static void main(String[] args) throws Exception {
        String readme = Files.readString(Path.of("README.md"));
        methods(readme);
        tests(readme);
        example(readme.lines().toList());
        CHECKS.finish();
    }

    private static void methods(String readme) throws Exception {
        String document = Files.readString(Path.of("../shared/DOC.md"));
        Matcher heads = Pattern.compile("public ([\\w ]+\\([\\w, ]*\\));").matcher(document);
        int methods = 0;
        while (heads.find()) {
            methods++;
            CHECKS.due("README tells " + heads.group(1), readme.contains("| `" + heads.group(1) + "` |") ? 1 : 0, 1);
        }
        CHECKS.due("the constructor and methods of the face", methods, 28);
    }

    private static void tests(String readme) throws Exception {
        try (Stream<Path> files = Files.list(Path.of("src/test/java"))) {
            for (Path file : files.toList()) {
                String test = file.getFileName().toString().replace(".java", "");
                CHECKS.due("README tells " + test, readme.contains(test) ? 1 : 0, 1);
            }
        }
    }

    private static void example(List<String> lines) {
        StaveHouse house = new StaveHouse();
        house.feed(0x766f6963, 0x65207620, 0x74726562, 0x6c652030, 0x207b6334);
        answered(lines, "house.end(20);", house.end(20));
        house.feed('}' << 24, 0, 0, 0, 0);
        answered(lines, "house.end(1);", house.end(1));
        answered(lines, "house.read(0);", house.read(0));
        answered(lines, "house.look(0, 1);", house.look(0, 1));
        answered(lines, "house.note(0, 0, 0, 4);", house.note(0, 0, 0, 4));
        answered(lines, "house.lines(0, 600);", house.lines(0, 600));
        answered(lines, "house.perform(0);", house.perform(0));
        answered(lines, "house.play(0, 1000);", house.play(0, 1000));
        answered(lines, "house.file(0);", house.file(0));
        answered(lines, "house.again();", house.again());
        answered(lines, "house.open();", house.open());
        answered(lines, "house.down(8);", house.down(8));
    }

    private static void answered(List<String> lines, String call, long answer) {
        String told = "not told";
        for (String line : lines) {
            if (line.startsWith(call)) {
                told = line.replaceFirst("^.*// (-?\\d+).*$", "$1");
            }
        }
        CHECKS.dueText("README of " + call, told, Long.toString(answer));
    }
}
