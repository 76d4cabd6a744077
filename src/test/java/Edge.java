import java.io.IOException;
import java.nio.file.Files;
import java.nio.file.Path;
import java.util.IdentityHashMap;
import java.util.Map;
import java.util.NoSuchElementException;
import java.util.regex.Matcher;
import java.util.regex.Pattern;

/** What the tests of edges share: the sentence that each holds, and calls that are refused and change nothing. */
final class Edge {
    interface Call { long on(MenOnCradles x); }
    interface Question { boolean on(MenOnCradles x); }

    static final int MIN = Integer.MIN_VALUE;
    static final int MAX = Integer.MAX_VALUE;
    private static final long THROWN = Long.MIN_VALUE;
    private static final int CALLS = 512;
    private static final int PROMISES = 57;

    private static final String DOCUMENT = read();
    private static final Pattern HEADS =
        Pattern.compile("## Terms|```(text|java)?|==== \\d+\\. |## Promise \\d+: [\\w ]+? `[^`]*`:?");
    private static final boolean[] HELD = new boolean[DOCUMENT.length()];
    private static final Map<Start, String[]> LOOKS = new IdentityHashMap<>();
    private static int wrong = 0;
    private static int asked = 0;
    private static int sentences = 0;
    private static String label = "";

    private Edge() { }

    // -- The sentences

    private static String read() {
        try {
            return Files.readString(Path.of("../shared/DOC.md")).replaceAll("\\s+", " ");
        } catch (IOException e) {
            throw new IllegalStateException(e);
        }
    }

    private static int sectionOf(int promise) {
        return DOCUMENT.indexOf("## Promise " + promise + ":");
    }

    private static int endOf(int promise) {
        return promise < PROMISES ? sectionOf(promise + 1) : DOCUMENT.indexOf("## Not promised");
    }

    /** The test at hand holds this sentence of the promise's own section. */
    static void promise(int promise, String sentence) {
        hold(promise, sentence, sectionOf(promise), endOf(promise));
    }

    /** The test at hand holds this sentence of the terms, for this promise. */
    static void term(int promise, String sentence) {
        hold(promise, sentence, 0, sectionOf(1));
    }

    private static void hold(int promise, String sentence, int from, int to) {
        label = "promise " + promise + " [" + sentence + "]";
        int at = DOCUMENT.indexOf(sentence, from);
        if (at < 0 || at + sentence.length() > to) {
            fail("the document does not say so");
            return;
        }
        sentences++;
        for (int i = at; i < at + sentence.length(); i++) HELD[i] = true;
    }

    /** Each word of the terms and of the promises must stand in a sentence that some test holds. */
    private static void allHeld() {
        label = "the document";
        boolean[] free = new boolean[DOCUMENT.length()];
        Matcher m = HEADS.matcher(DOCUMENT);
        while (m.find()) for (int i = m.start(); i < m.end(); i++) free[i] = true;
        StringBuilder open = new StringBuilder();
        for (int i = DOCUMENT.indexOf("## Terms"); i < DOCUMENT.indexOf("## Not promised"); i++) {
            if (!HELD[i] && !free[i]) {
                open.append(DOCUMENT.charAt(i));
            } else if (open.length() > 0) {
                if (open.toString().matches(".*[a-zA-Z0-9].*")) fail("no test holds [" + open.toString().trim() + "]");
                open.setLength(0);
            }
        }
        if (open.toString().matches(".*[a-zA-Z0-9].*")) fail("no test holds [" + open.toString().trim() + "]");
    }

    // -- Answers

    private static void fail(String what) {
        wrong++;
        System.out.println(label + ": " + what);
    }

    static void is(String what, long want, long got) {
        asked++;
        if (got != want) fail(what + ": answered " + got + ", due is " + want);
    }

    static void yes(String what, boolean got) { is(what, 1, got ? 1 : 0); }

    static void no(String what, boolean got) { is(what, 0, got ? 1 : 0); }

    static void none(String what, long got) { is(what, MenOnCradles.NONE, got); }

    private static long orThrown(MenOnCradles x, Call c) {
        try {
            return c.on(x);
        } catch (NoSuchElementException e) {
            return THROWN;
        }
    }

    // -- Calls that are refused

    static void refused(String what, Start s, Question q) { refused(what, s, x -> q.on(x) ? 1 : 0, 0); }

    static void refusedNone(String what, Start s, Call c) { refused(what, s, c, MenOnCradles.NONE); }

    static void refusedNoSuch(String what, Start s, Call c) { refused(what, s, c, THROWN); }

    /** The answer is as it must be, and behind the call all that can be seen is as it is without it. */
    private static void refused(String what, Start s, Call c, long want) {
        String[] without = LOOKS.computeIfAbsent(s, Edge::looks);
        for (int part = 0; part < Look.PARTS; part++) {
            MenOnCradles x = s.make();
            long got = orThrown(x, c);
            if (part == 0) {
                asked++;
                if (got != want) fail(what + ": answered " + shown(got) + ", due is " + shown(want));
            }
            if (!Look.seen(x, part).equals(without[part])) fail(what + ": something has changed behind it, part " + part);
        }
    }

    private static String shown(long answer) { return answer == THROWN ? "NoSuchElementException" : "" + answer; }

    private static String[] looks(Start s) {
        String[] parts = new String[Look.PARTS];
        for (int part = 0; part < Look.PARTS; part++) {
            int calls = s.size() + 1 + Look.calls(part);
            if (calls > CALLS) fail("too many calls for a look: " + calls);
            parts[part] = Look.seen(s.make(), part);
        }
        return parts;
    }

    /** What lies beyond both ends, near by and far off. */
    static int[] beyond(int least, int most) {
        return new int[] {least - 1, most + 1, least - 256, most + 256, MIN, MAX};
    }

    static int[] ends(int least, int most) { return new int[] {least, most}; }

    static void end() {
        allHeld();
        System.out.println("EdgeTest: " + sentences + " sentences, " + asked + " answers, " + wrong + " not as due");
        if (wrong > 0) System.exit(1);
    }
}
