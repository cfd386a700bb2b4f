import java.io.ByteArrayOutputStream;
import java.io.IOException;
import java.io.PrintStream;
import java.lang.reflect.Method;
import java.lang.reflect.Modifier;
import java.nio.file.Files;
import java.nio.file.Path;

/** README.md tells the truth: its example is the one that is run here, and no call of the face is left out. */
public final class ReadmeTest {
    private static final Path PAGE = Path.of("README.md");
    private static final Path EXAMPLE = Path.of("src", "test", "java", "Example.java");

    public static void main(String[] args) throws IOException {
        String page = Files.readString(PAGE);
        same("the example", Files.readString(EXAMPLE), block(page, "java"));
        same("what the example prints", printed(), block(page, "text"));
        for (Method method : Panyard.class.getDeclaredMethods()) {
            if (Modifier.isPublic(method.getModifiers())) {
                Check.due(method.getName() + " is told", page.contains("`" + method.getName() + "`"), true);
            }
        }
        Check.finish();
    }

    private static void same(String what, String got, String told) {
        Check.count();
        if (!got.equals(told)) {
            Check.tell(what + " is\n" + got + "README.md tells\n" + told);
        }
    }

    /** What stands in the first block of that kind; nothing without one. */
    private static String block(String page, String kind) {
        String opening = "```" + kind + "\n";
        int start = page.indexOf(opening);
        int end = page.indexOf("```", start + opening.length());
        return start < 0 || end < 0 ? "" : page.substring(start + opening.length(), end);
    }

    private static String printed() {
        PrintStream before = System.out;
        ByteArrayOutputStream caught = new ByteArrayOutputStream();
        System.setOut(new PrintStream(caught, true));
        try {
            Example.main(new String[0]);
        } finally {
            System.setOut(before);
        }
        return caught.toString().replace(System.lineSeparator(), "\n");
    }
}
