import java.io.File;
import java.io.IOException;
import java.lang.reflect.Method;
import java.lang.reflect.Modifier;
import java.nio.file.Files;
import java.nio.file.Path;
import java.util.ArrayList;
import java.util.Comparator;
import java.util.List;
import java.util.concurrent.TimeUnit;
import java.util.regex.Matcher;
import java.util.regex.Pattern;
import java.util.stream.Stream;

/** README.md followed word for word, in a copy of the checkout in which nothing is built. */
public final class ReadmeTest {
    private static final Path README = Path.of("README.md");
    private static final Path SHARED = Path.of("../shared");
    private static final Pattern BLOCK = Pattern.compile("(?s)\n```(\\w*)\n(.*?)\n```\n");
    private static final Pattern CODE = Pattern.compile("`([^`\n]+)`");
    // This test is a part of what that command runs: followed here, it would never end.
    private static final String ALL_TESTS = ".ci/run";

    private record Block(String kind, String text) { }

    private record Ran(int code, String out) { }

    private static List<Block> blocksOf(String page) {
        List<Block> blocks = new ArrayList<>();
        Matcher m = BLOCK.matcher(page);
        while (m.find()) blocks.add(new Block(m.group(1), m.group(2) + "\n"));
        return blocks;
    }

    private static Path copyOfCheckout() throws IOException {
        Path room = Files.createTempDirectory("readme");
        Path copy = Files.createDirectory(room.resolve("main"));
        Files.createSymbolicLink(room.resolve("shared"), SHARED.toRealPath());
        copyAll(README, copy);
        copyAll(Path.of("src"), copy);
        return copy;
    }

    private static void copyAll(Path from, Path into) throws IOException {
        try (Stream<Path> all = Files.walk(from)) {
            for (Path p : (Iterable<Path>) all::iterator) Files.copy(p, into.resolve(p.toString()));
        }
    }

    private static void remove(Path room) throws IOException {
        try (Stream<Path> all = Files.walk(room)) {
            for (Path p : (Iterable<Path>) all.sorted(Comparator.reverseOrder())::iterator) Files.delete(p);
        }
    }

    private static Ran run(String commands, Path in) throws IOException, InterruptedException {
        File out = Files.createTempFile("readme", ".out").toFile();
        Process p = new ProcessBuilder("sh", "-e", "-c", commands).directory(in.toFile())
            .redirectErrorStream(true).redirectOutput(out).start();
        boolean ended = p.waitFor(5, TimeUnit.MINUTES);
        if (!ended) p.destroyForcibly();
        String text = Files.readString(out.toPath());
        Files.delete(out.toPath());
        return new Ran(ended ? p.exitValue() : -1, text);
    }

    /** Commands run one after the other, as they stand; what the page shows behind them must be what they print. */
    private static void followed(List<Block> blocks, Path copy) throws IOException, InterruptedException {
        int commands = 0;
        for (int i = 0; i < blocks.size(); i++) {
            String text = blocks.get(i).text();
            if (!blocks.get(i).kind().equals("sh") || text.trim().equals(ALL_TESTS)) continue;
            commands++;
            Ran ran = run(text, copy);
            Due.due("[" + text.trim() + "] ends, having printed [" + ran.out().trim() + "]", ran.code(), 0);
            if (i + 1 < blocks.size() && blocks.get(i + 1).kind().equals("text")) {
                Due.yes("[" + text.trim() + "] prints [" + ran.out() + "]", blocks.get(i + 1).text().equals(ran.out()));
            }
        }
        Due.due("blocks of commands", commands, 3);
        Due.yes(ALL_TESTS + " can be run", Files.isExecutable(Path.of(ALL_TESTS)));
    }

    private static void shown(List<Block> blocks) throws IOException {
        int programs = 0;
        int rules = 0;
        for (Block b : blocks) {
            if (b.kind().equals("java")) {
                programs++;
                Due.yes("the program shown is Wash.java", b.text().equals(Files.readString(Path.of("src/example/java/Wash.java"))));
            }
            if (b.kind().equals("rule")) {
                rules++;
                Due.due("the rule shown has a fault", Texts.rule(new MenOnCradles(), b.text()), 0);
            }
            Due.yes("a block of " + b.kind(), List.of("sh", "text", "java", "rule").contains(b.kind()));
        }
        Due.due("programs shown", programs, 1);
        Due.due("rules shown", rules, 1);
    }

    private static boolean isClass(String name) {
        if (name.equals("NoSuchElementException") || Files.exists(Path.of("src/test/java", name + ".java"))) return true;
        for (Class<?> inside : MenOnCradles.class.getDeclaredClasses()) {
            if (inside.getSimpleName().equals(name)) return true;
        }
        return false;
    }

    /** What the page names must be there: files by their places, classes, tests and calls by their names. */
    private static void named(String page) throws IOException {
        Matcher m = CODE.matcher(BLOCK.matcher(page).replaceAll("\n"));
        List<String> names = new ArrayList<>();
        while (m.find()) names.add(m.group(1));
        for (String name : names) {
            if (name.matches("[.\\w/]+/[.\\w]+") && !name.startsWith("java")) {
                Due.yes(name + " is there", Files.exists(Path.of(name)));
            } else if (name.matches("[A-Z][a-z]\\w*(\\.java)?")) {
                Due.yes(name + " is a class", isClass(name.replace(".java", "")));
            }
        }
        try (Stream<Path> tests = Files.list(Path.of("src/test/java"))) {
            for (Path p : (Iterable<Path>) tests::iterator) {
                String name = p.getFileName().toString().replace(".java", "");
                if (name.endsWith("Test")) Due.yes("the page names " + name, names.contains(name));
            }
        }
        for (Method call : MenOnCradles.class.getDeclaredMethods()) {
            if (Modifier.isPublic(call.getModifiers())) {
                Due.yes("the page names " + call.getName(), names.contains(call.getName()));
            }
        }
    }

    public static void main(String[] args) throws IOException, InterruptedException {
        String page = Files.readString(README);
        List<Block> blocks = blocksOf(page);
        shown(blocks);
        named(page);
        Path copy = copyOfCheckout();
        followed(blocks, copy);
        remove(copy.getParent());
        Due.end("ReadmeTest");
    }
}
