/** Promises 11 and 12: the tape, and the rule's language with its faults and values. */
public final class RuleTest {
    private static void promise11() {
        MenOnCradles x = new MenOnCradles();
        Due.due("11: nothing", x.feed(0, 0, 0), 0);
        Due.due("11: the highest byte first", x.feed(Texts.pack("keys ;", 0), 0, 0), 6);
        Due.due("11: count", x.count(6), 6);
        Due.due("11: behind it", x.feed(0, Texts.pack("keys ;", 0), 0), 12);
        Due.due("11: read in that order", x.rule(), 3 + 16 * 6);
        Due.due("11: taken", x.count(6), 0);
        Due.due("11: others are left out", x.feed(0x7F80FF0B0A097E20L, 0x1F21000D00000000L, -1L), 4);
        x.rule();
        Due.due("11: 24 at once", x.feed(Texts.pack("abcdefgh", 0), Texts.pack("abcdefgh", 0), Texts.pack("abcdefgh", 0)), 24);
        x.rule();
        long blanks = Texts.pack("        ", 0);
        for (int i = 1; i <= 41; i++) Due.due("11: feed " + i, x.feed(blanks, blanks, blanks), 24 * i);
        Due.due("11: up to 1,000", x.feed(blanks, Texts.pack("  rate 9", 0), Texts.pack(";;;;;;;;", 0)), 1000);
        Due.due("11: not beyond", x.feed(blanks, blanks, blanks), 1000);
        Due.due("11: the end is at 1,000, behind rate 9", x.rule(), 1 + 16 * 1000);
    }

    private static void fault(String text, int kind, int place) {
        MenOnCradles x = new MenOnCradles();
        Due.due("12: [" + text + "]", Texts.rule(x, text), kind + 16 * place);
        Due.due("12: the tape is empty behind [" + text + "]", x.count(6), 0);
    }

    private static void good(String text) {
        Due.due("12: [" + text + "]", Texts.rule(new MenOnCradles(), text), 0);
    }

    private static void forms() {
        good("");
        good(" \n ");
        good("keys;");
        good("keys;rate4;drill99;wear1;price2;water3;stop when 1;quiet when 2;");
        good("rate0012;");
        good("rate 1;");
        good("drill 1;");
        good("wear 1\n+\n2;");
        good("wear 12and 3;");
        good("wear not(not not age)*not(not(age));");
        good("wear not not not not 1;");
        good("wear (((( 1 ))))*((((2))));");
        good("wear not 1 * not 2 + not 3 < not 4 and not 5 or 1 = 2;");
        good("wear tower+side+floors+day+week+hour+wind+panes+hours+worn+age;");
        good("stop when 1 < 2 and 2 < 3 or 3 = 3;");
        good("wear (1 < 2) < 3;");
        StringBuilder six = new StringBuilder();
        for (int i = 0; i < 6; i++) six.append("stop when 1;quiet when 0;");
        good(six.toString());
        fault(six + "stop when 1;", 5, 150);
        fault(six + " quiet when 1;", 5, 151);
        fault(six + "wear;", 1, 154);
    }

    private static void misplaced() {
        fault("when 1;", 1, 0);
        fault(";", 1, 0);
        fault("keys", 1, 4);
        fault("keys  ", 1, 6);
        fault("keys 1;", 1, 5);
        fault("stop", 1, 4);
        fault("stop 1;", 1, 5);
        fault("stop when;", 1, 9);
        fault("quiet wear 1;", 1, 6);
        fault("wear ;", 1, 5);
        fault("wear 1 2;", 1, 7);
        fault("wear 1 + ;", 1, 9);
        fault("wear + 1;", 1, 5);
        fault("wear - 1;", 1, 5);
        fault("wear 1 <= 2;", 1, 8);
        fault("wear 1 < 2 < 3;", 1, 11);
        fault("wear 1 = 2 < 3;", 1, 11);
        fault("wear (1;", 1, 7);
        fault("wear 1);", 1, 6);
        fault("wear ();", 1, 6);
        fault("wear (1) (2);", 1, 9);
        fault("wear 1 not 2;", 1, 7);
        fault("wear and 1;", 1, 5);
        fault("wear not;", 1, 8);
        fault("wear stop;", 1, 5);
        fault("wear water;", 1, 5);
        fault("wear speed;", 1, 5);
        fault("wear floor;", 1, 5);
        fault("wear agee;", 1, 5);
        fault("age 1;", 1, 0);
        fault("rate x;", 1, 5);
        fault("rate (1);", 1, 5);
        fault("rate 1 + 1;", 1, 7);
        fault("rate;", 1, 4);
    }

    private static void noTokens() {
        fault("Keys;", 1, 0);
        fault("keys?", 1, 4);
        fault("keys, ", 1, 4);
        fault("wear 1 > 2;", 1, 7);
        fault("wear 1 / 2;", 1, 7);
        fault("wear 12345;", 1, 5);
        fault("rate 00012;", 1, 5);
        fault("wear 1 + abcdefghi;", 1, 9);
        fault("abcdefgh 1;", 1, 0);
        fault("keyskeyskeys;", 1, 0);
        fault("~", 1, 0);
        fault("keys;\n!", 1, 6);
    }

    private static void twiceAndNumbers() {
        fault("wear 1; wear 1;", 3, 8);
        fault("price 1;price 1;", 3, 8);
        fault("water 1;water ;", 3, 8);
        fault("rate 1;rate 13;", 3, 7);
        fault("drill 1;drill 0;", 3, 8);
        fault("keys;keys", 3, 5);
        fault("rate 0;", 4, 5);
        fault("rate 13;", 4, 5);
        fault("rate 9999;", 4, 5);
        fault("rate 0 rate", 4, 5);
        fault("drill 0;", 4, 6);
        fault("drill 100;", 4, 6);
    }

    private static void depth() {
        fault("wear not not not not not 1;", 5, 25);
        fault("wear not not not not not not 1;", 5, 25);
        fault("wear ((((( 1 )))));", 5, 11);
        fault("wear ((((((1))))));", 5, 10);
        fault("wear (not (not (age)));", 5, 16);
        fault("wear not(not(not(age)));", 5, 16);
        fault("wear (not (not age + not 1) + not not not not 1);", 5, 46);
        fault("wear ((((1))) + (((not (1))));", 5, 23);
        fault("wear (((( );", 1, 10);
        fault("wear ((((( );", 1, 11);
        fault("wear not not not not not ;", 1, 25);
        fault("wear not not not not not and;", 1, 25);
        fault("wear not not not not not 12345;", 1, 25);
        fault("wear not not not not 1 + not not not not not 2;", 5, 45);
    }

    /** What an E comes to, seen as the price of a drop on side 2 of tower 1 on day 9 at hour 5, wind 31. */
    private static int value(String e) {
        MenOnCradles x = new MenOnCradles();
        x.tower(1, 9, 3);
        x.elder(0, true);
        x.drill(0, 9);
        x.drill(1, 9);
        for (int d = 8; d <= 9; d++) x.leave(1, d, 0, 23);
        Texts.rule(x, "rate 3; wear 17;");
        x.drop(1, 2, 0, 9, 0, 0, 1);
        x.block(1, 2, 0, 1, true);
        x.wind(2, 9, 5, 31);
        x.wind(2, 9, 6, 32);
        x.wind(1, 9, 5, 33);
        Due.due("12: [" + e + "] is a good one", Texts.rule(x, "rate 4; price " + e + ";"), 0);
        x.drop(1, 2, 1, 9, 5, 0, 1);
        return x.made(1, 8);
    }

    private static void is(String e, int want) { Due.due("12: " + e, value(e), want); }

    private static void values() {
        is("7", 7);
        is("0012", 12);
        is("tower", 1);
        is("side", 2);
        is("floors", 9);
        is("day", 9);
        is("week", 2);
        is("hour", 5);
        is("wind", 31);
        is("panes", 17);
        is("hours", 3);
        is("worn", 17);
        is("age", 99);
        is("1 + 2 * 3", 7);
        is("(1 + 2) * 3", 9);
        is("10 - 3 - 2", 5);
        is("10 - (3 - 2)", 9);
        is("3 - 10", 0);
        is("not 0", 1);
        is("not 5", 0);
        is("not not 5", 1);
        is("not 0 + 5", 6);
        is("not (0 + 5) + 2", 2);
        is("3 < 4", 1);
        is("4 < 4", 0);
        is("4 = 4", 1);
        is("4 = 5", 0);
        is("1 + 3 = 2 * 2", 1);
        is("5 and 7", 1);
        is("5 and 0", 0);
        is("0 or 7", 1);
        is("0 or 0", 0);
        is("1 or 0 and 0", 0);
        is("0 and 0 or 1", 1);
        is("1 or (0 and 0)", 1);
        is("0 - 1 and 1", 1);
        is("0 - 1 < 0", 1);
        is("(1 = 1) + (2 = 2) + (3 = 4)", 2);
        is("9999 * 9999 * 9999", Math.max(0, 9999 * 9999 * 9999));
        is("9999 * 9999 * 9999 * 7 * 13", Math.max(0, 9999 * 9999 * 9999 * 7 * 13));
        is("0 - 9999 * 9999 * 50 - 9999 * 9999", -9999 * 9999 * 50 - 9999 * 9999 > 0 ? -9999 * 9999 * 50 - 9999 * 9999 : 0);
        is("((((1+1)*2+1)*2+1)*2+1)", 23);
        is("1 + (2 < (3 + (4 = (5 - 1))) and (1 or 0))", 2);
    }

    private static void staying() {
        MenOnCradles x = Due.ready();
        Texts.rule(x, "price 5; rate 2; keys;");
        Due.due("12: a fault", Texts.rule(x, "price 6; rate 3; drill 1; stop when 1; rate 3;"), 3 + 16 * 39);
        Due.due("12: the keys ahead stay", x.why(0, 0, 0, 1, 8, 0, 1), 12);
        x.key(0, 0, 0, 0, true);
        x.drop(0, 0, 0, 1, 8, 0, 1);
        Due.due("12: the price ahead stays", x.made(0, 8), 5);
        Due.due("12: the rate ahead stays", x.made(0, 5), 2);
        Due.due("12: an empty one", x.rule(), 0);
        x.drop(0, 1, 0, 1, 12, 0, 2);
        Due.due("12: no price then", x.made(1, 8), 0);
        Due.due("12: rate 4 then", x.made(1, 5), 1);
        Texts.rule(x, "stop when hour = 9;");
        Due.due("12: nothing of an older one comes back", x.why(0, 0, 0, 2, 8, 2, 0), 0);
    }

    /** As many tokens as there are signs, and many rules one behind the other. */
    private static void full() {
        MenOnCradles x = Due.ready();
        Due.due("12: 1,000 tokens", Texts.rule(x, ";".repeat(1000)), 1);
        Due.due("12: 1,000 tokens of one line", Texts.rule(x, "wear" + "*".repeat(996)), 1 + 16 * 4);
        Due.due("12: no end within 1,000", Texts.rule(x, "price 1" + "+1".repeat(496) + "*"), 1 + 16 * 1000);
        for (int i = 0; i < 4; i++) {
            Due.due("12: 1,000 signs", Texts.rule(x, "price 1" + "+1".repeat(496) + ";"), 0);
        }
        x.drop(0, 0, 0, 1, 8, 0, 1);
        Due.due("12: their sum", x.made(0, 8), 497);
        for (int i = 0; i < 12; i++) Texts.rule(x, "keys;price 1" + "*1".repeat(10) + ";wear ;");
        x.drop(0, 0, 0, 1, 9, 0, 1);
        Due.due("12: faults leave it as it is", x.made(1, 8), 497);
        Due.due("12: blanks", Texts.rule(x, " ".repeat(992) + "price 2;"), 0);
        x.drop(0, 0, 0, 1, 10, 0, 1);
        Due.due("12: behind blanks", x.made(2, 8), 2);
        Due.due("12: 1,000 letters", Texts.rule(x, "a".repeat(1000)), 1);
        Due.due("12: 1,000 digits", Texts.rule(x, "rate " + "9".repeat(995)), 1 + 16 * 5);
        Due.due("12: lines without number", Texts.rule(x, "rate 1;drill 1;keys;wear 1;price 1;water 1;"), 0);
    }

    public static void main(String[] args) {
        promise11();
        forms();
        misplaced();
        noTokens();
        twiceAndNumbers();
        depth();
        values();
        staying();
        full();
        Due.end("RuleTest");
    }
}
