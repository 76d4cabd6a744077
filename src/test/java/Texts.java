import java.util.Random;

/** Rule texts: how they are fed, and random ones, with and without faults. */
final class Texts {
    private Texts() { }

    static long pack(String text, int from) {
        long bytes = 0;
        for (int i = from; i < from + 8; i++) bytes = bytes << 8 | (i < text.length() ? text.charAt(i) & 255 : 0);
        return bytes;
    }

    /** Feeds a text of any length; how many signs are on the tape then. */
    static int feed(MenOnCradles x, String text) {
        int n = x.feed(0, 0, 0);
        for (int i = 0; i < text.length(); i += 24) n = x.feed(pack(text, i), pack(text, i + 8), pack(text, i + 16));
        return n;
    }

    static int rule(MenOnCradles x, String text) {
        feed(x, text);
        return x.rule();
    }

    private static String one(Random r, String... of) { return of[r.nextInt(of.length)]; }

    static String rule(Random r) {
        StringBuilder b = new StringBuilder();
        int lines = r.nextInt(5);
        for (int i = 0; i < lines; i++) b.append(line(r)).append(one(r, " ", "", "\n", "  "));
        String text = b.toString();
        return r.nextInt(3) == 0 ? spoilt(r, text) : text;
    }

    private static String line(Random r) {
        switch (r.nextInt(11)) {
            case 0: case 1: return "stop when " + soft(r) + one(r, ";", " ;");
            case 2: case 3: return "quiet when " + soft(r) + one(r, ";", " ;");
            case 4: return "wear " + e(r, 0) + ";";
            case 5: return "price " + e(r, 0) + " ;";
            case 6: return "water " + e(r, 0) + ";";
            case 7: return one(r, "rate ", "rate") + one(r, "1", "2", "3", "5", "12", "0012", "7", "13", "0") + ";";
            case 8: return "drill " + one(r, "1", "5", "30", "99", "0099", "100", "0", "12") + " ;";
            case 9: return r.nextInt(4) == 0 ? "keys ;" : "";
            default: return "wear " + one(r, "10", "panes", "hours * 20", "worn - 5", "700") + ";";
        }
    }

    /** Mostly conditions that hold seldom, so that drops can be made. */
    private static String soft(Random r) {
        switch (r.nextInt(6)) {
            case 0: return e(r, 0);
            case 1: return "40 < wind and hour < 12";
            case 2: return "60 < wind";
            case 3: return "week = " + r.nextInt(7) + " and hour < " + r.nextInt(12);
            case 4: return "hour < " + r.nextInt(9);
            default: return "( panes < 3 or age = " + r.nextInt(5) + ") and not(side<2)";
        }
    }

    static String e(Random r, int depth) {
        int n = r.nextInt(10) < 6 ? 1 : 2 + r.nextInt(2);
        StringBuilder b = new StringBuilder(test(r, depth));
        for (int i = 1; i < n; i++) b.append(one(r, " and ", " or ")).append(test(r, depth));
        return b.toString();
    }

    private static String test(Random r, int depth) {
        return r.nextInt(3) == 0 ? sum(r, depth) + one(r, "<", " = ", " < ") + sum(r, depth) : sum(r, depth);
    }

    private static String sum(Random r, int depth) {
        StringBuilder b = new StringBuilder(product(r, depth));
        for (int i = r.nextInt(4); i > 2; i--) b.append(one(r, "+", " - ", " + ")).append(product(r, depth));
        return b.toString();
    }

    private static String product(Random r, int depth) {
        StringBuilder b = new StringBuilder(part(r, depth));
        for (int i = r.nextInt(4); i > 2; i--) b.append(one(r, "*", " * ")).append(part(r, depth));
        return b.toString();
    }

    private static String part(Random r, int depth) {
        int kind = r.nextInt(depth < 4 ? 8 : 6);
        if (kind == 7) return "(" + e(r, depth + 1) + ")";
        if (kind == 6) return "not " + part(r, depth + 1);
        if (kind < 3) return "" + one(r, "0", "1", "2", "7", "10", "40", "99", "9999", "0005", "" + r.nextInt(10000));
        return ModelRule.FACTS.get(r.nextInt(ModelRule.FACTS.size()));
    }

    private static String spoilt(Random r, String text) {
        StringBuilder b = new StringBuilder(text);
        int at = r.nextInt(b.length() + 1);
        switch (r.nextInt(7)) {
            case 0: b.setLength(at); break;
            case 1: if (at < b.length()) b.deleteCharAt(at); break;
            case 2: b.insert(at, one(r, "(", ")", "<", "=", "+", "-", "*", ";", " ", "A", "?", "9", "x", "\n", "~")); break;
            case 3: b.insert(at, one(r, " not ", " and ", " when ", " stop ", " age ", " 12345 ", " abcdefghi ")); break;
            case 4: b.append("wear not not not not ").append(one(r, "not 1;", "( 2 ) ;", "3;", ") ;", "")); break;
            case 5: for (int i = 0; i < 7; i++) b.append(one(r, "stop when 0;", "quiet when 0 ;", "stop when 0;")); break;
            default: b.append(one(r, "rate 2; rate 3;", "keys;keys;", "drill 5;drill 200;", "price 1;price 2;", "keys 1;"));
        }
        return b.toString();
    }
}
