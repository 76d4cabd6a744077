/** How MenOnCradles is used: one tower, a rule, a drop, what is asked behind it, and a plan. */
public final class Wash {
    private Wash() { }

    public static void main(String[] args) {
        MenOnCradles x = new MenOnCradles();
        tell(x);
        wash(x);
        look(x);
        plan(x);
    }

    private static void tell(MenOnCradles x) {
        say("a tower of 4 floors, 5 columns", x.tower(0, 4, 5));
        say("the same one again", x.tower(0, 4, 5));
        say("person 0 is an elder", x.elder(0, true));
        say("persons 0 and 1 were drilled on day 3", x.drill(0, 3) && x.drill(1, 3));
        say("leave for its roof on day 5, 8 to 17", x.leave(0, 5, 8, 17));
        say("wind 45 on side 0 on day 5 at 10", x.wind(0, 5, 10, 45));
        say("signs on the tape", feed(x, "stop when 40 < wind; rate 2; price 50 * hours; water 3 * panes;"));
        say("it is read, its fault", x.rule());
        feed(x, "rate 2; rate 3;");
        int fault = x.rule();
        say("another one's fault, its kind", fault % 16);
        say("and the place of it", fault / 16);
    }

    private static void wash(MenOnCradles x) {
        say("why not at 9", x.why(0, 0, 0, 5, 9, 0, 1));
        say("why not at 11", x.why(0, 0, 0, 5, 11, 0, 1));
        say("the drop is made, its number", x.drop(0, 0, 0, 5, 11, 0, 1));
        say("its hours", x.made(0, 5));
        say("its price", x.made(0, 8));
        say("the day on which a pane was washed", x.washed(0, 0, 3, 1));
        say("another pane's", x.washed(0, 0, 3, 2));
    }

    private static void look(MenOnCradles x) {
        say("panes that are late by a week", x.late(0, 0, 5, 7));
        say("the reason of one", x.reason(0, 0, 0, 4, 5, 7));
        say("the fewest stops that reach all", x.cover(0, 0, 0));
        say("water on a pane", x.water(0, 0, 3, 1, 0, 99));
        x.wind(0, 5, 12, 60);
        say("wind is heard of late: drops against", x.against(MenOnCradles.NONE));
        x.row(0, 0, 2, 5, 13, 0, 1);
        x.row(0, 0, 4, 5, 14, 0, 1);
        say("a row is tried, the first that may not be", x.tried(0));
        say("why", x.tried(1));
        say("what there is: drops", x.count(1));
    }

    private static void plan(MenOnCradles x) {
        x.want(0, 30);
        x.want(2, 50);
        x.chance(0, 2, 8);
        say("the side to choose on day 0", x.plan(0, 3, 2));
        say("the plan's worth, above", x.plan(0, 3, 0));
        say("below", x.plan(0, 3, 1));
        x.came(0, 2, false);
        say("what it was worth beside what came", x.hindsight(0));
        try {
            x.plan(5, 3, 2);
        } catch (java.util.NoSuchElementException e) {
            say("a plan has no day 5", true);
        }
    }

    /** 24 signs a call, eight to a long, the highest byte first; a byte of 0 is left out. */
    private static int feed(MenOnCradles x, String text) {
        int there = 0;
        for (int at = 0; at < text.length(); at += 24) {
            there = x.feed(eight(text, at), eight(text, at + 8), eight(text, at + 16));
        }
        return there;
    }

    private static long eight(String text, int from) {
        long bytes = 0;
        for (int i = from; i < from + 8; i++) {
            bytes = bytes << 8 | (i < text.length() ? text.charAt(i) : 0);
        }
        return bytes;
    }

    private static void say(String what, long answer) {
        System.out.println(what + ": " + answer);
    }

    private static void say(String what, boolean answer) {
        System.out.println(what + ": " + answer);
    }
}
