import java.util.NoSuchElementException;

/** What the hand-written tests share: comparing, counting what is wrong, and a place to start from. */
final class Due {
    interface Asked { long get(); }

    private static int wrong = 0;
    private static int asked = 0;

    private Due() { }

    static void due(String what, long got, long want) {
        asked++;
        if (got != want) {
            wrong++;
            System.out.println(what + ": answered " + got + ", due is " + want);
        }
    }

    static void due(String what, boolean got, boolean want) {
        due(what, got ? 1 : 0, want ? 1 : 0);
    }

    static void yes(String what, boolean got) { due(what, got, true); }

    static void no(String what, boolean got) { due(what, got, false); }

    static void none(String what, long got) { due(what, got, MenOnCradles.NONE); }

    static void noSuch(String what, Asked call) {
        asked++;
        try {
            long got = call.get();
            wrong++;
            System.out.println(what + ": answered " + got + ", due is NoSuchElementException");
        } catch (NoSuchElementException e) {
            return;
        }
    }

    static void end(String name) {
        System.out.println(name + ": " + asked + " answers, " + wrong + " not as due");
        if (wrong > 0) System.exit(1);
    }

    /**
     * Tower 0 with 4 floors and 5 columns, tower 1 with 10 and 3; person 0 an elder; 0 to 3 drilled on day 0;
     * leave for tower 0 on days 1 to 5 from 8 to 17, for tower 1 on days 1 and 2 all day.
     */
    static MenOnCradles ready() {
        MenOnCradles x = new MenOnCradles();
        x.tower(0, 4, 5);
        x.tower(1, 10, 3);
        x.elder(0, true);
        for (int p = 0; p < 4; p++) x.drill(p, 0);
        for (int d = 1; d <= 5; d++) x.leave(0, d, 8, 17);
        x.leave(1, 1, 0, 23);
        x.leave(1, 2, 0, 23);
        return x;
    }
}
