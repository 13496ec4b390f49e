import java.io.IOException;
import java.lang.reflect.Method;
import java.lang.reflect.Modifier;
import java.nio.charset.StandardCharsets;
import java.nio.file.DirectoryStream;
import java.nio.file.Files;
import java.nio.file.Path;
import java.util.ArrayList;
import java.util.Arrays;
import java.util.Comparator;
import java.util.List;
import java.util.TreeSet;
import java.util.regex.Matcher;
import java.util.regex.Pattern;
import java.util.stream.Stream;

/** README.md stays true: its commands run, its example prints what stands there, refused calls answer what its table says. */
public final class ReadmeTest {
    private static final String NEVER = "never refused";
    private static int checked = 0;
    private static int wrong = 0;

    private static void check(boolean ok, String what) {
        checked++;
        if (!ok) {
            wrong++;
            System.out.println(what);
        }
    }

    private static void due(String what, String got, String want) {
        check(got.equals(want), what + ":\n" + got + "\nREADME.md says:\n" + want);
    }

    /** The page's blocks of one language, in their order. */
    private static List<String> blocks(String page, String language) {
        List<String> found = new ArrayList<>();
        Matcher m = Pattern.compile("(?ms)^```" + language + "\n(.*?)^```$").matcher(page);
        while (m.find()) found.add(m.group(1));
        return found;
    }

    private static void copySources(String folder, Path to) throws IOException {
        Files.createDirectories(to.resolve(folder));
        try (DirectoryStream<Path> files = Files.newDirectoryStream(Path.of(folder), "*.java")) {
            for (Path file : files) Files.copy(file, to.resolve(folder).resolve(file.getFileName()));
        }
    }

    private static void remove(Path folder) throws IOException {
        try (Stream<Path> all = Files.walk(folder)) {
            for (Path path : all.sorted(Comparator.reverseOrder()).toList()) Files.delete(path);
        }
    }

    /** What the commands print, run one after the other as they are written. */
    private static String printed(String commands, Path root) throws IOException, InterruptedException {
        StringBuilder printed = new StringBuilder();
        for (String command : commands.split("\n")) {
            Process process = new ProcessBuilder(command.split(" ")).directory(root.toFile()).redirectErrorStream(true).start();
            process.getOutputStream().close();
            printed.append(new String(process.getInputStream().readAllBytes(), StandardCharsets.UTF_8));
            check(process.waitFor() == 0, "failed: " + command + "\n" + printed);
        }
        return printed.toString().replace("\r", "");
    }

    // In a folder of its own, so that a checkout stays as it is.
    private static void commandsAndExample(String page) throws IOException, InterruptedException {
        List<String> programs = blocks(page, "java");
        List<String> outputs = blocks(page, "text");
        List<String> commands = blocks(page, "sh");
        check(programs.size() == 1 && outputs.size() == 1 && commands.size() == 2, "README.md has other blocks than are run here");
        if (wrong > 0) return;
        Path root = Files.createTempDirectory("readme");
        try {
            copySources("src/main/java", root);
            copySources("src/test/java", root);
            Files.writeString(root.resolve("Example.java"), programs.get(0));
            due("the example prints", printed(commands.get(0), root), outputs.get(0));
            check(!printed(commands.get(1), root).isEmpty(), "the test alone prints nothing");
        } finally {
            remove(root);
        }
    }

    /** An object whose tape is full of what is no rule, so that feed() and text() are refused, too. */
    private static PaintedByOthers refusing() {
        PaintedByOthers x = new PaintedByOthers();
        int letters = 0x7a7a7a7a;
        for (int n = 0; n < 20; n++) x.feed(letters, letters, letters, letters, letters);
        return x;
    }

    private static String answer(Method m) throws ReflectiveOperationException {
        Object[] arguments = new Object[m.getParameterCount()];
        for (int i = 0; i < arguments.length; i++) {
            if (m.getParameterTypes()[i] == int.class) arguments[i] = -2;
            else arguments[i] = false;
        }
        return String.valueOf(m.invoke(refusing(), arguments));
    }

    private static String valueOf(String answer) {
        String said = answer.replace("`", "");
        if (!said.startsWith("NONE")) return said;
        int less = said.equals("NONE") ? 0 : Integer.parseInt(said.substring("NONE - ".length()));
        return String.valueOf(PaintedByOthers.NONE - less);
    }

    private static void refusedCalls(String page) throws ReflectiveOperationException {
        TreeSet<String> left = new TreeSet<>();
        for (Method m : PaintedByOthers.class.getDeclaredMethods()) if (Modifier.isPublic(m.getModifiers())) left.add(m.getName());
        Matcher row = Pattern.compile("(?m)^\\| (`?(?:false|NONE)[^|]*|" + NEVER + ") \\| (.*) \\|$").matcher(page);
        while (row.find()) {
            for (String name : row.group(2).replace("`", "").split(" ")) {
                check(left.remove(name), "the table has " + name + " twice, or there is none such");
                Method[] found = Arrays.stream(PaintedByOthers.class.getDeclaredMethods()).filter(m -> m.getName().equals(name)
                    && Modifier.isPublic(m.getModifiers())).toArray(Method[]::new);
                check(found.length == 1, "no such call: " + name);
                if (found.length == 1 && !row.group(1).equals(NEVER)) due(name + " refused", answer(found[0]), valueOf(row.group(1)));
            }
        }
        check(left.isEmpty(), "the table lacks " + left);
    }

    public static void main(String[] args) throws Exception {
        String page = Files.readString(Path.of("README.md"), StandardCharsets.UTF_8).replace("\r", "");
        commandsAndExample(page);
        refusedCalls(page);
        System.out.println(wrong == 0 ? "README.md is true, by " + checked + " checks" : wrong + " things in README.md are not so");
        if (wrong != 0) System.exit(1);
    }
}
