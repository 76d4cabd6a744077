import java.util.ArrayList;
import java.util.Arrays;
import java.util.HashSet;
import java.util.List;
import java.util.Set;

/** The rule's language a second time: faults by a walk over states, values by cutting at the weakest sign. */
final class ModelRule {
    static final List<String> FACTS = Arrays.asList(
        "tower", "side", "floors", "day", "week", "hour", "wind", "panes", "hours", "worn", "age");

    static final class E {
        final List<String> tokens;
        E(List<String> tokens) { this.tokens = tokens; }
        int value(int[] facts) { return cut(tokens, facts); }
    }

    List<E> stops = new ArrayList<>(), quiets = new ArrayList<>();
    E wear, price, water;
    int rate = 4, drill = 30;
    boolean keys;

    private final List<String> tokens = new ArrayList<>();
    private final List<Integer> places = new ArrayList<>();

    private void cutTokens(String text) {
        int i = 0;
        while (i < text.length()) {
            char c = text.charAt(i);
            if (c == '\n' || c == ' ') { i++; continue; }
            int j = i + 1;
            if (Character.isLowerCase(c)) while (j < text.length() && Character.isLowerCase(text.charAt(j))) j++;
            if (Character.isDigit(c)) while (j < text.length() && Character.isDigit(text.charAt(j))) j++;
            tokens.add(text.substring(i, j));
            places.add(i);
            i = j;
        }
        tokens.add("");
        places.add(text.length());
    }

    private static boolean number(String t) { return t.matches("[0-9]{1,4}"); }

    int read(String text) {
        cutTokens(text);
        String state = "line";
        Set<String> once = new HashSet<>();
        int stopsSeen = 0, quietsSeen = 0;
        int limit = 0;
        // Each open ( is a frame: whether its test had a comparison, and the nots open ahead of the next part.
        List<Boolean> compared = new ArrayList<>();
        List<Integer> notsAtOpen = new ArrayList<>();
        int nots = 0;
        int depthOfNots = 0;
        List<String> e = null;
        String head = "";
        for (int i = 0; i < tokens.size(); i++) {
            String t = tokens.get(i);
            int at = 16 * places.get(i);
            switch (state) {
                case "line":
                    if (t.isEmpty()) return 0;
                    head = t;
                    if (t.equals("stop") || t.equals("quiet")) {
                        int seen = t.equals("stop") ? ++stopsSeen : ++quietsSeen;
                        if (seen > 6) return 5 + at;
                        state = "when";
                    } else if (Arrays.asList("wear", "price", "water", "rate", "drill", "keys").contains(t)) {
                        if (!once.add(t)) return 3 + at;
                        state = t.equals("keys") ? "semicolon" : t.equals("rate") || t.equals("drill") ? "number" : "part";
                        if (t.equals("keys")) keys = true;
                        limit = t.equals("rate") ? 12 : 99;
                    } else {
                        return 1 + at;
                    }
                    compared.clear();
                    compared.add(false);
                    notsAtOpen.clear();
                    nots = 0;
                    depthOfNots = 0;
                    e = new ArrayList<>();
                    break;
                case "when":
                    if (!t.equals("when")) return 1 + at;
                    state = "part";
                    break;
                case "number":
                    if (!number(t)) return 1 + at;
                    int n = Integer.parseInt(t);
                    if (n < 1 || n > limit) return 4 + at;
                    if (head.equals("rate")) rate = n; else drill = n;
                    state = "semicolon";
                    break;
                case "semicolon":
                    if (!t.equals(";")) return 1 + at;
                    state = "line";
                    break;
                case "part":
                    boolean starts = t.equals("not") || t.equals("(") || number(t) || FACTS.contains(t);
                    if (!starts) return 1 + at;
                    int depth = nots + depthOfNots + compared.size() - 1;
                    if (depth >= 5) return 5 + at;
                    e.add(t);
                    if (t.equals("not")) {
                        nots++;
                    } else if (t.equals("(")) {
                        compared.add(false);
                        notsAtOpen.add(nots);
                        depthOfNots += nots;
                        nots = 0;
                    } else {
                        nots = 0;
                        state = "joint";
                    }
                    break;
                default:
                    boolean inside = compared.size() > 1;
                    if (t.equals(")") && inside) {
                        compared.remove(compared.size() - 1);
                        depthOfNots -= notsAtOpen.remove(notsAtOpen.size() - 1);
                        nots = 0;
                        e.add(t);
                    } else if (t.equals(";") && !inside) {
                        finish(head, e);
                        state = "line";
                    } else if (t.equals("*") || t.equals("+") || t.equals("-")) {
                        e.add(t);
                        state = "part";
                    } else if (t.equals("and") || t.equals("or")) {
                        compared.set(compared.size() - 1, false);
                        e.add(t);
                        state = "part";
                    } else if ((t.equals("<") || t.equals("=")) && !compared.get(compared.size() - 1)) {
                        compared.set(compared.size() - 1, true);
                        e.add(t);
                        state = "part";
                    } else {
                        return 1 + at;
                    }
            }
        }
        throw new IllegalStateException("no end");
    }

    private void finish(String head, List<String> e) {
        switch (head) {
            case "stop": stops.add(new E(e)); break;
            case "quiet": quiets.add(new E(e)); break;
            case "wear": wear = new E(e); break;
            case "price": price = new E(e); break;
            default: water = new E(e);
        }
    }

    /** The last of the weakest signs outside of ( ) is what is done last. */
    private static int cut(List<String> e, int[] facts) {
        List<List<String>> ranks = Arrays.asList(
            Arrays.asList("and", "or"), Arrays.asList("<", "="), Arrays.asList("+", "-"), Arrays.asList("*"));
        for (List<String> rank : ranks) {
            int depth = 0;
            for (int i = e.size() - 1; i >= 0; i--) {
                if (e.get(i).equals(")")) depth++;
                if (e.get(i).equals("(")) depth--;
                if (depth == 0 && rank.contains(e.get(i))) {
                    int a = cut(e.subList(0, i), facts), b = cut(e.subList(i + 1, e.size()), facts);
                    switch (e.get(i)) {
                        case "and": return a != 0 && b != 0 ? 1 : 0;
                        case "or": return a != 0 || b != 0 ? 1 : 0;
                        case "<": return a < b ? 1 : 0;
                        case "=": return a == b ? 1 : 0;
                        case "+": return a + b;
                        case "-": return a - b;
                        default: return a * b;
                    }
                }
            }
        }
        String first = e.get(0);
        if (first.equals("not")) return cut(e.subList(1, e.size()), facts) == 0 ? 1 : 0;
        if (first.equals("(")) return cut(e.subList(1, e.size() - 1), facts);
        return number(first) ? Integer.parseInt(first) : facts[FACTS.indexOf(first)];
    }
}
