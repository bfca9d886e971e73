import java.io.ByteArrayOutputStream;
import java.io.IOException;
import java.io.PrintStream;
import java.lang.reflect.Method;
import java.lang.reflect.Modifier;
import java.nio.charset.StandardCharsets;
import java.nio.file.DirectoryStream;
import java.nio.file.Files;
import java.nio.file.Path;
import java.util.regex.Matcher;
import java.util.regex.Pattern;

/** README.md: its example answers as it says, and no call, answer or test is left out of it. */
public final class ReadmeTest {
    private static final Due DUE = new Due("ReadmeTest");
    private static final Path TESTS = Path.of("src/test/java");

    public static void main(String[] args) throws IOException {
        String page = Files.readString(Path.of("README.md"));
        example(page);
        calls(page);
        answers(page);
        tests(page);
        files(page);
        DUE.ends();
    }

    /** The text of the first block of that sort, without its fences. */
    private static String block(String page, String sort) {
        Matcher m = Pattern.compile("(?s)```" + sort + "\n(.*?)\n```").matcher(page);
        return m.find() ? m.group(1) : "";
    }

    private static void example(String page) throws IOException {
        String source = Files.readString(TESTS.resolve("Evening.java")).strip();
        DUE.isSo("Evening.java stands in it", !block(page, "java").isEmpty()
            && source.endsWith(block(page, "java")));
        DUE.isSo("the whole of it", block(page, "java").startsWith("public final class Evening {"));
        String[] due = block(page, "text").split("\n");
        String[] got = printed().split("\n");
        DUE.is("lines that it prints", due.length, got.length);
        for (int i = 0; i < due.length && i < got.length; i++) {
            DUE.isSo("it prints " + got[i] + ", not " + due[i], got[i].equals(due[i]));
        }
    }

    private static String printed() {
        PrintStream out = System.out;
        ByteArrayOutputStream all = new ByteArrayOutputStream();
        System.setOut(new PrintStream(all, true, StandardCharsets.UTF_8));
        Evening.main(new String[0]);
        System.setOut(out);
        return all.toString(StandardCharsets.UTF_8).replace("\r", "").strip();
    }

    private static void calls(String page) {
        for (Method m : BellsBelow.class.getDeclaredMethods()) {
            if (Modifier.isPublic(m.getModifiers())) {
                Matcher told = Pattern.compile("`" + m.getName() + "\\((\\w+(?:, \\w+)*)?\\)`").matcher(page);
                boolean is = told.find();
                DUE.isSo(m.getName() + " stands in it", is);
                String names = is ? told.group(1) : null;
                int many = names == null ? 0 : names.split(", ").length;
                DUE.is("arguments of " + m.getName(), many, m.getParameterCount());
            }
        }
    }

    private static void answers(String page) {
        DUE.isSo("NONE", page.contains("`NONE` (" + BellsBelow.NONE + ")"));
        DUE.isSo("BAD", page.contains("`BAD` (" + BellsBelow.BAD + ")"));
        DUE.isSo("STATE", page.contains("`STATE` (" + BellsBelow.STATE + ")"));
        DUE.isSo("FULL", page.contains("`FULL` (" + BellsBelow.FULL + ")"));
        DUE.isSo("NO", page.contains("`NO` (`Long.MIN_VALUE`)"));
        String refusals = "| -11, -12, -13, -14 | NOTHING is there; CAST: another sort or KIND; "
            + "PLACE: no such place; SIZE below 0 |";
        DUE.isSo("the host's refusals", page.contains(refusals));
    }

    /** One that is not told of would not be found by a reader; one that is not there would be missed. */
    private static void tests(String page) throws IOException {
        try (DirectoryStream<Path> all = Files.newDirectoryStream(TESTS, "*Test.java")) {
            for (Path test : all) {
                String name = test.getFileName().toString().replace(".java", "");
                DUE.isSo(name + " stands in it", page.contains("`" + name + "`"));
            }
        }
        Matcher named = Pattern.compile("`(\\w+Test)`").matcher(page);
        while (named.find()) {
            DUE.isSo(named.group(1) + " is there", Files.exists(TESTS.resolve(named.group(1) + ".java")));
        }
    }

    private static void files(String page) {
        Matcher named = Pattern.compile("(?:src/|\\.\\./shared/|\\.ci/)[\\w/.]*\\w").matcher(page);
        while (named.find()) {
            DUE.isSo(named.group() + " is there", Files.exists(Path.of(named.group())));
        }
        DUE.isSo(".ci/run can be run", Files.isExecutable(Path.of(".ci/run")));
    }
}
