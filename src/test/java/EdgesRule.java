/** Edges of promises 11 and 12: the tape, its tokens, and the rule with its faults. */
final class EdgesRule {
    private EdgesRule() { }

    static void all() {
        signs();
        bytes24();
        tape1000();
        taken();
        words();
        numbers();
        signsAndNone();
        blanks();
        longest();
        lines();
        stops6();
        quiets6();
        stopsAndQuiets();
        onceEach();
        rates();
        drills();
        without();
        levels();
        fromTheLeft();
        within5();
        truth();
        wraps();
        facts();
        ages();
        faultPlaces();
        leastKind();
        kind1();
        kind3();
        kind4();
        kind5();
        stays();
    }

    private static int one(int sign) { return new MenOnCradles().feed((long) sign << 56, 0, 0); }

    private static void signs() {
        Edge.term(11, "10 and 32 .. 126;");
        Edge.promise(11, "others than 10 and 32 .. 126,");
        for (int sign = 0; sign < 256; sign++) {
            Edge.is("sign " + sign, sign == 10 || sign >= 32 && sign <= 126 ? 1 : 0, one(sign));
        }
        MenOnCradles x = new MenOnCradles();
        Edge.is("others are left out between", 2, x.feed(0x611F7F80FF0B0962L, 0, 0));
        Edge.is("they are one word then", 1, x.rule());
        Edge.is("keys ; with others between", 6, x.feed(0x6B1F657F79807300L, 0x00203B0000000000L, 0xFFFFFFFFFFFFFFFFL));
        Edge.is("is read as keys ;", 0, x.rule());
    }

    private static void bytes24() {
        Edge.promise(11, "Up to 24 signs come behind the TAPE: the bytes of a, b, c, of each the highest first;");
        Edge.promise(11, "are left out: how many there are.");
        MenOnCradles x = new MenOnCradles();
        Edge.is("none", 0, x.feed(0, 0, 0));
        Edge.is("24", 24, x.feed(0x7772697465207374L, 0x6F7020776F726473L, 0x2068657265203B3BL));
        Edge.is("and one", 25, x.feed(0, 0, ';'));
        Edge.is("and none", 25, x.feed(0, 0, 0));
        Edge.is("as count tells", 25, x.count(6));
        x.rule();
        x.feed(Texts.pack("keys;rat", 0), Texts.pack("e 12;dri", 0), Texts.pack("ll 99 ;!", 0));
        Edge.is("a, b, c in this order, the fault is at the last sign", 1 + 16 * 23, x.rule());
        for (int byteAt = 0; byteAt < 24; byteAt++) {
            long[] abc = {0x2020202020202020L, 0x2020202020202020L, 0x2020202020202020L};
            abc[byteAt / 8] ^= (long) (' ' ^ ';') << 56 - byteAt % 8 * 8;
            Edge.is("; as byte " + byteAt, 24, x.feed(abc[0], abc[1], abc[2]));
            Edge.is("is read there", 1 + 16 * byteAt, x.rule());
        }
    }

    private static void tape1000() {
        Edge.term(11, "The TAPE has at most 1,000 signs,");
        Edge.promise(11, "and what is beyond 1,000,");
        long blank = 0x2020202020202020L;
        Start s992 = Start.NEW.times(41, (x, i) -> x.feed(blank, blank, blank)).then(x -> x.feed(blank, 0, 0));
        MenOnCradles x = s992.make();
        Edge.is("992 are there", 992, x.count(6));
        Edge.is("eight more", 1000, x.feed(Texts.pack("price 1;", 0), 0, 0));
        Edge.is("none beyond", 1000, x.feed('!', 0, 0));
        Edge.is("nor 24", 1000, x.feed(blank, blank, blank));
        Edge.is("the first 1,000 are read", 0, x.rule());
        MenOnCradles y = s992.make();
        Edge.is("999", 999, y.feed(Texts.pack("keys  ;", 0), 0, 0));
        Edge.is("of two, one is beyond", 1000, y.feed(0, Texts.pack(";!", 0), 0));
        Edge.is("the 1,000th is a fault", 1 + 16 * 999, y.rule());
        MenOnCradles z = s992.make();
        Edge.is("of 24, eight", 1000, z.feed(Texts.pack("quiet wh", 0), Texts.pack("en 1 ;  ", 0), blank));
        Edge.is("its end is at 1,000", 1 + 16 * 998, z.rule());
        Edge.is("then there is room again", 24, z.feed(blank, blank, blank));
        Edge.refused("a feed of what is left out", s992, v -> v.feed(0, -1, 0x1F7F80FF0B090001L) != 992);
        Edge.refused("a feed of a full tape", s992.then(v -> v.feed(blank, 0, 0)), v -> v.feed(blank, blank, blank) != 1000);
    }

    private static void taken() {
        Edge.term(12, "what reads it takes it: it is empty then.");
        MenOnCradles x = Start.READY.make();
        Edge.is("a good one", 0, Texts.rule(x, "price 7;"));
        Edge.is("is taken", 0, x.count(6));
        Edge.is("an empty one", 0, x.rule());
        Edge.is("with a fault", 1, Texts.rule(x, "pri ce;"));
        Edge.is("is taken, too", 0, x.count(6));
        Texts.feed(x, "price 8");
        Edge.is("no end", 1 + 16 * 7, x.rule());
        Texts.feed(x, ";");
        Edge.is("not what was read ahead of it", 1, x.rule());
    }

    private static int fault(String text) { return Texts.rule(new MenOnCradles(), text); }

    private static void good(String text) { Edge.is("[" + text + "]", 0, fault(text)); }

    private static void bad(String text, int kind, int place) { Edge.is("[" + text + "]", kind + 16 * place, fault(text)); }

    private static void words() {
        Edge.term(12, "WORDS (letters a .. z, 8 at most),");
        good("wear age;");
        bad("wear a;", 1, 5);
        bad("wear z;", 1, 5);
        bad("wear `;", 1, 5);
        bad("wear {;", 1, 5);
        bad("wear Age;", 1, 5);
        bad("wear aGe;", 1, 5);
        bad("abcdefgh;", 1, 0);
        bad("abcdefghi;", 1, 0);
        bad("wear age abcdefgh;", 1, 9);
        bad("wear age abcdefghi;", 1, 9);
        bad("floorsxx;", 1, 0);
        bad("wear floorsxx;", 1, 5);
        bad("wear pricewhen;", 1, 5);
        for (String word : new String[] {"stop", "quiet", "wear", "price", "water", "rate", "drill", "keys"}) {
            bad(word.substring(0, word.length() - 1) + ";", 1, 0);
            bad(word + "s;", 1, 0);
            bad(word, 1, word.length());
        }
        for (String fact : ModelRule.FACTS) {
            good("wear " + fact + ";");
            if (!fact.equals("hours")) bad("wear " + fact.substring(0, fact.length() - 1) + ";", 1, 5);
            bad("wear " + fact + "x;", 1, 5);
            bad(fact + ";", 1, 0);
        }
    }

    private static void numbers() {
        Edge.term(12, "NUMBERS (1 to 4 digits; a letter may stand right behind),");
        good("wear 0;");
        good("wear 9999;");
        good("wear 0000;");
        bad("wear 10000;", 1, 5);
        bad("wear 00000;", 1, 5);
        bad("wear 123456789;", 1, 5);
        bad("wear 1 + 99999;", 1, 9);
        good("wear 1and 2or 3;");
        good("wear 9999and 1;");
        bad("wear 1age;", 1, 6);
        bad("rate 12x;", 1, 7);
        bad("wear 12345and 1;", 1, 5);
        good("rate12;");
        good("drill0099;");
        good("wear age*2;");
        bad("wear age2;", 1, 8);
        bad("wear 1 2;", 1, 7);
        bad("wear 1.5;", 1, 6);
    }

    private static void signsAndNone() {
        Edge.term(12, "the signs ( ) < = + - * ;");
        Edge.term(12, "All else (a longer WORD or NUMBER, too, at its first sign) is none.");
        good("wear (1)<2;");
        good("wear(1+2-3*4)=(5<6);");
        for (int sign = 33; sign <= 126; sign++) {
            boolean letterOrDigit = sign >= '0' && sign <= '9' || sign >= 'a' && sign <= 'z';
            if (letterOrDigit || "()<=+-*;".indexOf(sign) >= 0) continue;
            bad("wear 1" + (char) sign + "2;", 1, 6);
            bad("keys;" + (char) sign, 1, 5);
        }
        bad("wear 1==2;", 1, 7);
        bad("wear 1<=2;", 1, 7);
        bad("wear 1**2;", 1, 7);
        bad("wear 1;;", 1, 7);
        bad("keys ;  abcdefghijk 12345;", 1, 8);
        bad("keys ;  12345 abcdefghijk;", 1, 8);
    }

    private static void blanks() {
        Edge.term(12, "blanks (10, 32) between where one likes:");
        good("\n wear\n\n1 \n+ 2\n;\n  ");
        good("wear 1+2;keys;rate 3;");
        good(" ");
        good("\n");
        good("stop\nwhen\n1\n;");
        bad("st op when 1;", 1, 0);
        bad("wear 1 0;", 1, 7);
        bad("stopwhen 1;", 1, 0);
        bad("stop when1 or1", 1, 14);
        good("stop when1 or1;");
        good("stop when 1or 1;");
        bad("wear not1 and2or3", 1, 17);
        good("wear not1 and2or3;");
        bad("wear notage;", 1, 5);
    }

    private static void longest() {
        Edge.term(12, "TOKENS, each as long as can be,");
        bad("wearwear 1;", 1, 0);
        bad("keyskeys;", 1, 0);
        bad("wear age age;", 1, 9);
        bad("wear ageage;", 1, 5);
        bad("wear 12 34;", 1, 8);
        Edge.is("1234 is one number", 1234, priceOf("1234"));
        bad("wear 99991;", 1, 5);
    }

    private static void lines() {
        Edge.term(12, "RULE: any number of stop when E ; quiet when E ; wear E ; price E ; water E ; rate N ; drill N ; keys ;");
        good("");
        good("keys;");
        good("stop when 1;stop when 0;quiet when 1;stop when 1;");
        good("keys;drill 1;rate 1;water 1;price 1;wear 1;quiet when 1;stop when 1;");
        good("stop when 1;quiet when 1;wear 1;price 1;water 1;rate 1;drill 1;keys;");
        StringBuilder all = new StringBuilder("keys;drill 1;rate 1;water 1;price 1;wear 1;");
        for (int i = 0; i < 6; i++) all.append("quiet when 0;stop when 0;");
        good(all.toString());
        bad("stop 1;", 1, 5);
        bad("stop when;", 1, 9);
        bad("quiet 1;", 1, 6);
        bad("wear when 1;", 1, 5);
        bad("wear;", 1, 4);
        bad("price;", 1, 5);
        bad("water;", 1, 5);
        bad("rate;", 1, 4);
        bad("drill;", 1, 5);
        bad("keys 1;", 1, 5);
        bad("keys keys;", 1, 5);
        bad(";", 1, 0);
        bad("wear 1", 1, 6);
        bad("rate 1", 1, 6);
        bad("rate age;", 1, 5);
        bad("rate 1+1;", 1, 6);
        bad("drill (1);", 1, 6);
    }

    private static String times(int n, String text) { return text.repeat(n); }

    private static void stops6() {
        Edge.term(12, "stop 6 at most,");
        good(times(5, "stop when 1;"));
        good(times(6, "stop when 1;"));
        bad(times(7, "stop when 1;"), 5, 72);
        bad(times(6, "stop when 1;") + "stop", 5, 72);
        bad(times(6, "stop when 1;") + "stop stop", 5, 72);
        good(times(6, "stop when 1;") + "quiet when 1;");
        for (int i = 0; i < 6; i++) {
            String text = times(i, "stop when 0;") + "stop when 1;" + times(5 - i, "stop when 0;");
            Edge.is("the stop " + i + " counts", 9, Start.READY.ruled(text).make().why(0, 0, 0, 1, 8, 0, 1));
        }
        Edge.is("none does", 0, Start.READY.ruled(times(6, "stop when 0;")).make().why(0, 0, 0, 1, 8, 0, 1));
    }

    private static void quiets6() {
        Edge.term(12, "quiet likewise,");
        good(times(6, "quiet when 1;"));
        bad(times(7, "quiet when 1;"), 5, 78);
        bad(times(6, "quiet when 1;") + "quiet", 5, 78);
        good(times(6, "quiet when 1;") + times(6, "stop when 1;"));
        bad(times(6, "quiet when 1;") + times(7, "stop when 1;"), 5, 150);
        for (int i = 0; i < 6; i++) {
            String text = times(i, "quiet when 0;") + "quiet when 1;" + times(5 - i, "quiet when 0;");
            Edge.is("the quiet " + i + " counts", 10, Start.READY.ruled(text).make().why(0, 0, 0, 1, 8, 0, 1));
        }
        Edge.is("none does", 0, Start.READY.ruled(times(6, "quiet when 0;")).make().why(0, 0, 0, 1, 8, 0, 1));
    }

    /** Each of the six and six for an hour of its own, and all else beside them. */
    private static void stopsAndQuiets() {
        Edge.term(12, "stop 6 at most, quiet likewise,");
        StringBuilder rule = new StringBuilder("wear 21;");
        for (int i = 0; i < 6; i++) rule.append("stop when hour=").append(i).append(";quiet when hour=").append(10 + i).append(';');
        rule.append("price 31;water 41;rate 12;");
        MenOnCradles x = Start.READY.ruled(rule.toString()).make();
        for (int h = 0; h < 24; h++) Edge.is("hour " + h, h < 6 ? 9 : h >= 10 && h < 16 ? 10 : 0, x.why(5, 0, 0, 1, h, 0, 1));
        Edge.is("six hours lost", 6, x.lost(5, 0, 1));
        x.drop(5, 0, 0, 1, 16, 0, 1);
        int[] due = {21, 31, 41};
        for (int i = 0; i < 3; i++) Edge.is("made(0, " + (7 + i) + ")", due[i], x.made(0, 7 + i));
    }

    private static void onceEach() {
        Edge.term(12, "the others once each;");
        for (String line : new String[] {"wear 1;", "price 1;", "water 1;", "rate 1;", "drill 1;", "keys;"}) {
            good(line);
            bad(line + line, 3, line.length());
            bad(line + "stop when 1;" + line, 3, line.length() + 12);
        }
    }

    private static int hoursBy(int rate) {
        MenOnCradles x = Start.READY.ruled("rate " + rate + ";").make();
        return x.made(x.drop(5, 0, 0, 1, 0, 0, 1), 5);
    }

    private static void rates() {
        Edge.term(12, "rate N 1 to 12");
        Edge.is("rate 1", 12, hoursBy(1));
        Edge.is("rate 2", 6, hoursBy(2));
        Edge.is("rate 11", 2, hoursBy(11));
        Edge.is("rate 12", 1, hoursBy(12));
        good("rate 0001;");
        good("rate 0012;");
        for (String n : new String[] {"0", "13", "0000", "0013", "99", "9999"}) bad("rate " + n + ";", 4, 5);
        bad("rate -1;", 1, 5);
        bad("rate 00001;", 1, 5);
    }

    private static int whyDrilled(String rule, int days) {
        return Start.READY.then(x -> x.leave(0, days, 8, 8)).ruled(rule).make().why(0, 0, 0, days, 8, 0, 1);
    }

    private static void drills() {
        Edge.term(12, "drill N 1 to 99");
        Edge.is("drill 1, a day", 0, whyDrilled("drill 1;", 1));
        Edge.is("drill 1, two days", 7, whyDrilled("drill 1;", 2));
        Edge.is("drill 98, 98 days", 0, whyDrilled("drill 98;", 98));
        Edge.is("drill 98, 99 days", 7, whyDrilled("drill 98;", 99));
        Edge.is("drill 99, 99 days", 0, whyDrilled("drill 99;", 99));
        good("drill 0001;");
        good("drill 0099;");
        for (String n : new String[] {"0", "100", "0000", "0100", "9999"}) bad("drill " + n + ";", 4, 6);
    }

    private static void without() {
        Edge.term(12, "(4 without),");
        Edge.term(12, "(30 without).");
        for (String rule : new String[] {"", "keys;", "wear 1;"}) {
            MenOnCradles x = Start.READY.ruled("rate 7;drill 7;").ruled(rule).then(y -> y.key(5, 0, 0, 0, true)).make();
            Edge.is("rate without, [" + rule + "]", 3, x.made(x.drop(5, 0, 0, 1, 0, 0, 1), 5));
        }
        Edge.is("30 days without", 0, whyDrilled("", 30));
        Edge.is("31 days without", 7, whyDrilled("", 31));
        MenOnCradles x = Start.READY.make();
        Edge.is("of a new object, too", 3, x.made(x.drop(5, 0, 0, 1, 0, 0, 1), 5));
    }

    /** What an E comes to, as the price of a drop on side 2 of tower 5 on day 1 at hour 9, with wind 31. */
    private static int priceOf(String e) {
        MenOnCradles x = Start.READY.then(y -> y.wind(2, 1, 9, 31)).make();
        Edge.is("[" + e + "] has no fault", 0, Texts.rule(x, "price " + e + ";"));
        x.drop(5, 2, 3, 1, 9, 0, 1);
        return x.made(0, 8);
    }

    private static void price(String e, int want) { Edge.is(e, want, priceOf(e)); }

    private static void levels() {
        Edge.term(12, "TEST: SUM, or SUM < SUM, or SUM = SUM; SUM: PRODUCT { + or - PRODUCT }; PRODUCT: PART { * PART };");
        Edge.term(12, "PART: a NUMBER, a fact, not PART, ( E );");
        price("1 + 2 * 3", 7);
        price("2 * 3 + 1", 7);
        price("(1 + 2) * 3", 9);
        price("1 + 2 < 3", 0);
        price("1 + 2 = 3", 1);
        price("2 < 1 + 2", 1);
        price("2 * 2 = 4", 1);
        price("1 < 2 and 2 < 3", 1);
        price("not 1 + 2", 2);
        price("not (1 + 2)", 0);
        price("not 0 * 5", 5);
        price("not not 5 * 5", 5);
        price("not wind = 31", 0);
        price("not (wind = 31)", 0);
        price("not (wind = 30)", 1);
        bad("wear 1 < 2 < 3;", 1, 11);
        bad("wear 1 = 2 = 3;", 1, 11);
        good("wear (1 < 2) < 3;");
        good("wear 1 < (2 < 3);");
        bad("wear -1;", 1, 5);
        bad("wear 1 + -1;", 1, 9);
        bad("wear 1 * not;", 1, 12);
        bad("wear 1 not 2;", 1, 7);
        bad("wear ();", 1, 6);
        bad("wear (1;", 1, 7);
        bad("wear (1));", 1, 8);
        bad("wear (1) 2;", 1, 9);
        bad("wear and 1;", 1, 5);
        bad("wear 1 and;", 1, 10);
        bad("wear 1 and or 1;", 1, 11);
    }

    private static void fromTheLeft() {
        Edge.term(12, "E: TEST { and TEST or or TEST }, from the left;");
        price("1 or 1 and 0", 0);
        price("0 and 0 or 1", 1);
        price("1 or (1 and 0)", 1);
        price("1 or 0 and 0 or 0 and 1", 0);
        price("10 - 4 - 3", 3);
        price("10 - (4 - 3)", 9);
        price("10 - 4 + 3", 9);
        price("2 * 3 * 4 - 1 - 2 * 3", 17);
    }

    private static void within5() {
        Edge.term(12, "no PART lies within 5 of not and ( ).");
        good("wear not not not not 1;");
        bad("wear not not not not not 1;", 5, 25);
        good("wear ((((1))));");
        bad("wear (((((1)))));", 5, 10);
        good("wear (not (not age));");
        bad("wear (not (not (age)));", 5, 16);
        bad("wear not (not (not age));", 5, 19);
        bad("wear ((((not 1))));", 5, 13);
        bad("wear ((((((1))))));", 5, 10);
        bad("wear not not not not not not 1;", 5, 25);
        bad("wear not not not not (1);", 5, 22);
        good("wear ((((1)) + ((2)))) + ((((3))));");
        bad("wear ((((1)) + (((2))))) + 3;", 5, 18);
        good("wear not 1 + not 2 + not 3 + not 4 + not 5 + not 6;");
        good("wear ((((1)))) * ((((2)))) * not not not not 3;");
        price("((((7)))) + not not not not 3", 8);
        price("0or 1<2+3*(0or 1<2+3*(0or 1<2+3*(0or 1<2+3*(0or 1<2+3*4))))", 1);
        price("9-2*(9-2*(9-2*(9-2*(9-2*3))))", 9 - 2 * (9 - 2 * (9 - 2 * (9 - 2 * (9 - 2 * 3)))));
    }

    private static void truth() {
        Edge.term(12, "Of not, and, or, < and = comes 1 or 0; what is not 0 is so;");
        price("not 0", 1);
        price("not 1", 0);
        price("not 9999", 0);
        price("not (0 - 1)", 0);
        price("2 and 4", 1);
        price("(0 - 2) and 4", 1);
        price("2 and 0", 0);
        price("0 and 2", 0);
        price("0 or 7", 1);
        price("7 or 0", 1);
        price("(0 - 7) or 0", 1);
        price("0 or 0", 0);
        price("3 < 4", 1);
        price("4 < 4", 0);
        price("5 < 4", 0);
        price("0 - 1 < 0", 1);
        price("4 = 4", 1);
        price("4 = 5", 0);
        price("(2 and 4) + (3 < 4) + (4 = 4) + (0 or 9) + not 0", 5);
        Edge.is("what is below 0 stops", 9, Start.READY.ruled("stop when 0 - 1;").make().why(0, 0, 0, 1, 8, 0, 1));
        Edge.is("and is quiet", 10, Start.READY.ruled("quiet when 0 - 9999;").make().why(0, 0, 0, 1, 8, 0, 1));
    }

    /** 9999 * 9999 * 21 + 9999 * 4790 + 8416 is the greatest int. */
    private static void wraps() {
        Edge.term(12, "ints wrap.");
        String greatest = "9999*9999*21+9999*4790+8416";
        price(greatest, Edge.MAX);
        price(greatest + "+1", 0);
        price(greatest + "+1-1", Edge.MAX);
        price(greatest + "+1<0", 1);
        price("0-(" + greatest + ")-1<0", 1);
        price("0-(" + greatest + ")-2", Edge.MAX);
        price("0-(0-(" + greatest + ")-1)<0", 1);
        price("9999*9999*22", 0);
        price("0-9999*9999*22", 2095407274);
        price("9999*9999*9999*9999", 9999 * 9999 * 9999 * 9999 > 0 ? 9999 * 9999 * 9999 * 9999 : 0);
        price("4096*4096*256", 0);
        price("4096*4096*256+7", 7);
        price("not(4096*4096*256)", 1);
        price("4096*4096*128<0", 1);
        price("(" + greatest + "+1)*(0-1)<0", 1);
        MenOnCradles x = Start.READY.ruled("wear 4096*4096*256;water 4096*4096*256+5;stop when 4096*4096*256;").make();
        Edge.is("wear and stop, wrapped to 0", 0, x.drop(0, 0, 0, 1, 8, 0, 1));
        Edge.is("wear", 0, x.made(0, 7));
        Edge.is("water", 5, x.made(0, 9));
    }

    private static void facts() {
        Edge.term(12, "Facts of a DROP in an HOUR: tower, side, floors, day, week (the weekday), hour, wind (in this HOUR), "
            + "panes (that it REACHES), hours (that it takes), worn (of its CRADLE),");
        String[] names = {"tower", "side", "floors", "day", "week", "hour", "wind", "panes", "hours", "worn", "age"};
        int[] due = {5, 2, 12, 1, 1, 9, 31, 24, 3, 0, 99};
        for (int i = 0; i < names.length; i++) price(names[i], due[i]);
        for (int day : new int[] {0, 6, 7, 13, 14, 97, 98, 99}) {
            MenOnCradles x = Start.READY.then(y -> y.drill(0, day), y -> y.drill(1, day), y -> y.leave(0, day, 23, 23))
                .ruled("price week*1000+day;water hour;").make();
            x.drop(0, 0, 0, day, 23, 0, 1);
            Edge.is("the weekday of day " + day, day % 7 * 1000 + day, x.made(0, 8));
            Edge.is("the last hour", 23, x.made(0, 9));
        }
        MenOnCradles x = Start.READY.then(y -> y.wind(0, 1, 10, 50)).ruled("stop when wind=50 and hour=10;price wind;").make();
        Edge.is("wind in a later hour stops", 9, x.why(5, 0, 0, 1, 8, 0, 1));
        Edge.is("behind it no more", 0, x.why(5, 0, 0, 1, 11, 0, 1));
        Edge.is("an hour is that at hand, not the first", 9, Start.READY.ruled("stop when hour=9 and hours=3;").make().why(5, 0, 0, 1, 7, 0, 1));
    }

    private static int ageAfter(int first, int then) {
        MenOnCradles x = Start.READY.then(y -> y.leave(0, first, 8, 8), y -> y.leave(0, then, 8, 8)).ruled("drill 99;price age;").make();
        x.drop(0, 0, 0, first, 8, 0, 1);
        return x.made(x.drop(0, 0, 0, then, then == first ? 9 : 8, 0, 1), 8);
    }

    private static void ages() {
        Edge.term(12, "age (the most days since one that it REACHES was washed; 99 if one never was, 99 at most).");
        Edge.is("never", 99, priceOf("age"));
        Edge.is("on this day", 0, ageAfter(1, 1));
        Edge.is("a day", 1, ageAfter(1, 2));
        Edge.is("98 days", 98, ageAfter(1, 99));
        Edge.is("99 days", 99, ageAfter(0, 99));
        Start two = Start.READY.ruled("price age;").then(x -> x.drop(0, 0, 0, 1, 8, 0, 1), x -> x.drop(0, 0, 2, 3, 8, 0, 1));
        MenOnCradles x = two.make();
        x.drop(0, 0, 1, 4, 8, 0, 1);
        Edge.is("the most of 3 and 1", 3, x.made(2, 8));
        MenOnCradles y = two.make();
        y.drop(0, 0, 3, 4, 8, 0, 1);
        Edge.is("one never was", 99, y.made(2, 8));
        MenOnCradles z = two.then(v -> v.block(0, 0, 0, 4, true), v -> v.block(0, 0, 1, 4, true), v -> v.block(0, 0, 2, 4, true),
            v -> v.nest(0, 0, 3, 4, 4, 4)).make();
        z.drop(0, 0, 3, 4, 8, 0, 1);
        Edge.is("those that never were are not reached", 1, z.made(2, 8));
        for (int floor : Edge.ends(0, 3)) for (int column : Edge.ends(0, 1)) {
            Start one = Start.READY.ruled("price age;");
            for (int i = 0; i < 8; i++) { int at = i; if (i != floor * 2 + column) one = one.then(v -> v.block(0, 0, at / 2, at % 2, true)); }
            MenOnCradles v = one.then(u -> u.drop(0, 0, 0, 1, 8, 0, 1), u -> u.drop(0, 0, 0, 5, 8, 0, 1)).make();
            Edge.is("one pane, never washed", 99, v.made(0, 8));
            Edge.is("one pane, washed", 4, v.made(1, 8));
        }
    }

    private static void faultPlaces() {
        Edge.term(12, "FAULTS, kind + 16 * the place (from 0) of a token, the end being one at the text's length:");
        bad("!", 1, 0);
        bad(" !", 1, 1);
        bad("\n\n  !", 1, 4);
        bad("keys", 1, 4);
        bad("keys ", 1, 5);
        bad("keys\n\n", 1, 6);
        bad("stop when", 1, 9);
        bad("wear 1" + " ".repeat(994), 1, 1000);
        bad("wear " + "1+".repeat(497) + "1", 1, 1000);
        bad(" ".repeat(999) + "!", 1, 999);
        bad("wear " + "(".repeat(3), 1, 8);
    }

    private static void leastKind() {
        Edge.term(12, "of the first token from the left that is wrong the least:");
        bad("rate 13; rate 1; !", 4, 5);
        bad("rate 1; rate 13; !", 3, 8);
        bad("! rate 13;", 1, 0);
        bad("wear wear 1; wear 1;", 1, 5);
        bad("wear 1 wear 1;", 1, 7);
        bad("stop stop when 1;", 1, 5);
        bad(times(6, "stop when 1;") + "wear stop;", 1, 77);
        bad("wear not not not not not ;", 1, 25);
        bad("wear not not not not not 12345;", 1, 25);
        bad("wear not not not not not wear;", 1, 25);
        bad("wear ((((();", 1, 10);
        bad("rate rate;", 1, 5);
        bad("rate 12345;", 1, 5);
        bad("keys;keys", 3, 5);
        bad("keys;keys 1", 3, 5);
        bad("rate 0 !", 4, 5);
    }

    private static void kind1() {
        Edge.term(12, "1 it is none, or can't stand there;");
        bad("wear abcdefghi;", 1, 5);
        bad("wear 12345;", 1, 5);
        bad("wear #;", 1, 5);
        bad("wear ;", 1, 5);
        bad("wear when;", 1, 5);
        bad("wear foo;", 1, 5);
        bad("when 1;", 1, 0);
        bad("1;", 1, 0);
        bad("not;", 1, 0);
        bad("(keys;", 1, 0);
        bad("and", 1, 0);
    }

    private static void kind3() {
        Edge.term(12, "3 the word wear, price, water, rate, drill, keys a second time;");
        for (String line : new String[] {"wear 1;", "price 1;", "water 1;", "rate 1;", "drill 1;", "keys;"}) {
            String word = line.substring(0, line.length() - 1).split(" ")[0];
            bad(line + word, 3, line.length());
            bad(line + " " + word + " !", 3, line.length() + 1);
            bad("keys;".repeat(word.equals("keys") ? 0 : 1) + line + line + line, 3, line.length() + (word.equals("keys") ? 0 : 5));
        }
        good("stop when 1;stop when 1;quiet when 1;quiet when 1;");
    }

    private static void kind4() {
        Edge.term(12, "4 a NUMBER of rate, drill that is not as told;");
        bad("rate 0;", 4, 5);
        bad("rate 13;", 4, 5);
        bad("drill 0;", 4, 6);
        bad("drill 100;", 4, 6);
        bad("rate 0", 4, 5);
        bad("drill 0 drill", 4, 6);
        good("drill 13;");
        good("rate 12;drill 99;");
        good("wear 0;price 9999;");
    }

    private static void kind5() {
        Edge.term(12, "5 one too many: the word stop, quiet of a seventh; not, or a PART, within 5 others.");
        bad(times(6, "stop when 1;") + "keys;stop when 1;", 5, 77);
        bad(times(6, "quiet when 1;") + "keys;quiet when 1;", 5, 83);
        bad("wear not not not not not not;", 5, 25);
        bad("wear not not not not not (;", 5, 25);
        bad("wear not not not not not age;", 5, 25);
        bad("wear not not not not not 0;", 5, 25);
        bad("stop when (((( (1;", 5, 16);
        bad("wear 1 + (((((2)))));", 5, 14);
    }

    private static void stays() {
        Edge.term(12, "Without a FAULT it is the RULE from then on (an empty one at first).");
        Edge.promise(12, "The TAPE is read as a RULE: 0, or its FAULT (the one ahead stays then).");
        MenOnCradles x = Start.READY.make();
        Edge.is("an empty one at first", 0, x.drop(0, 0, 0, 1, 8, 0, 1));
        for (int what = 7; what <= 9; what++) Edge.is("nothing of it, " + what, 0, x.made(0, what));
        Start ruled = Start.READY.ruled("wear 3;price 5;water 7;rate 2;drill 3;quiet when hour=9;stop when hour=11;");
        for (String faulty : new String[] {"wear 4;price 6;water 8;rate 3;drill 1;keys;stop when 1;quiet when 1;!", "keys",
            "rate 13;", "keys;keys;", "stop when ((((( 1", "!"}) {
            Edge.refused("faulty [" + faulty + "]", ruled, y -> Texts.rule(y, faulty) == 0);
            MenOnCradles y = ruled.make();
            Texts.rule(y, faulty);
            Edge.is("its quiet stays", 10, y.why(0, 0, 0, 1, 9, 0, 1));
            Edge.is("its stop stays", 9, y.why(0, 0, 0, 1, 10, 0, 1));
            Edge.is("its drill stays", 0, y.why(0, 0, 0, 3, 12, 0, 1));
            Edge.is("its drill stays, a day more", 7, y.why(0, 0, 0, 4, 12, 0, 1));
            Edge.is("a drop by it", 0, y.drop(0, 0, 0, 1, 12, 0, 1));
            int[] due = {2, 8, 3, 5, 7};
            for (int i = 0; i < 5; i++) Edge.is("made(0, " + (5 + i) + ") by it", due[i], y.made(0, 5 + i));
        }
        MenOnCradles z = ruled.make();
        Edge.is("an empty one", 0, z.rule());
        Edge.is("is the rule then", 0, z.drop(0, 0, 0, 1, 9, 0, 1));
        for (int what = 7; what <= 9; what++) Edge.is("nothing of the one ahead, " + what, 0, z.made(0, what));
        Start keys = Start.READY.ruled("keys;wear 3;price 5;water 7;rate 2;drill 1;quiet when 1;stop when 1;");
        for (int between = 0; between < 4; between++) {
            Start s = keys;
            for (int i = 0; i < between; i++) s = s.ruled(i % 2 == 0 ? "keys" : "wear 3;price 5;water 7;stop when 1;!");
            for (int empty = 1; empty < 4; empty++) {
                s = s.ruled("");
                MenOnCradles y = s.make();
                Edge.is("of " + empty + " empty ones behind " + between + " with faults", 0, y.drop(0, 0, 0, 5, 9, 0, 1));
                int[] due = {1, 8, 0, 0, 0};
                for (int i = 0; i < 5; i++) Edge.is("made(0, " + (5 + i) + ")", due[i], y.made(0, 5 + i));
                Edge.is("nothing lost", 0, y.lost(0, 0, 5));
            }
        }
    }
}
