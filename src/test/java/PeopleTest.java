/** Promises 31 to 36: gangs of elder and learner, cradles to be bought, rotas. */
public final class PeopleTest {
    private static void promise31() {
        MenOnCradles x = new MenOnCradles();
        x.elder(4, true);
        Due.yes("31: told", x.match(4, 7, 99));
        Due.due("31: it counts", x.gangs(0), 99);
        Due.yes("31: told again, the other way round", x.match(7, 4, 3));
        Due.due("31: that counts", x.gangs(0), 3);
        Due.yes("31: 0", x.match(7, 4, 0));
        Due.due("31: 0 counts", x.gangs(0), 0);
        Due.no("31: the same", x.match(4, 4, 1));
        Due.no("31: 100", x.match(4, 7, 100));
        Due.no("31: -1", x.match(4, 7, -1));
        Due.no("31: person 10", x.match(10, 7, 1));
        Due.no("31: person -1", x.match(4, -1, 1));
        Due.yes("31: two elders or two others too", x.match(0, 1, 50));
        Due.due("31: of no use to gangs", x.gangs(0), 0);
    }

    private static void gang(MenOnCradles x, int... with) {
        for (int p = 0; p < 10; p++) Due.due("32: who goes with " + p, x.gangs(1 + p), with[p]);
    }

    private static void promise32() {
        MenOnCradles x = new MenOnCradles();
        Due.due("32: no elders", x.gangs(0), 0);
        gang(x, -1, -1, -1, -1, -1, -1, -1, -1, -1, -1);
        x.elder(5, true);
        gang(x, 5, -1, -1, -1, -1, 0, -1, -1, -1, -1);
        x.elder(2, true);
        gang(x, 2, 5, 0, -1, -1, 1, -1, -1, -1, -1);
        x.match(0, 2, 4);
        x.match(0, 5, 6);
        x.match(9, 5, 3);
        Due.due("32: the greatest sum", x.gangs(0), 7);
        gang(x, 2, -1, 0, -1, -1, 9, -1, -1, -1, 5);
        x.match(1, 2, 1);
        Due.due("32: two ways to it", x.gangs(0), 7);
        gang(x, 2, -1, 0, -1, -1, 9, -1, -1, -1, 5);
        x.match(1, 2, 2);
        Due.due("32: another way is greater", x.gangs(0), 8);
        gang(x, 5, 2, 1, -1, -1, 0, -1, -1, -1, -1);
        x.elder(5, false);
        Due.due("32: one elder less", x.gangs(0), 4);
        for (int p = 0; p < 10; p++) x.elder(p, true);
        Due.due("32: all elders", x.gangs(0), 0);
        gang(x, -1, -1, -1, -1, -1, -1, -1, -1, -1, -1);
        x.elder(9, false);
        Due.due("32: nine elders", x.gangs(0), 3);
        gang(x, -1, -1, -1, -1, -1, 9, -1, -1, -1, 5);
        Due.none("32: what 11", x.gangs(11));
        Due.none("32: what -1", x.gangs(-1));
    }

    private static void promise33() {
        MenOnCradles x = new MenOnCradles();
        Due.yes("33: the least", x.offer(0, 0, 0, 1));
        Due.yes("33: the most", x.offer(7, 9999, 63, 6));
        Due.due("33: two", x.count(5), 2);
        Due.yes("33: told again", x.offer(7, 9998, 63, 6));
        Due.due("33: still two", x.count(5), 2);
        x.tower(0, 1, 1);
        Due.due("33: the newer cost", x.buy(0), 9998);
        Due.yes("33: none any more", x.offer(7, 9998, 63, 0));
        Due.due("33: one", x.count(5), 1);
        Due.none("33: it can't be bought", x.buy(0));
        Due.yes("33: none any more again", x.offer(7, 1, 1, 0));
        Due.no("33: offer 8", x.offer(8, 1, 1, 1));
        Due.no("33: offer -1", x.offer(-1, 1, 1, 1));
        Due.no("33: cost -1", x.offer(1, -1, 1, 1));
        Due.no("33: cost 10000", x.offer(1, 10000, 1, 1));
        Due.no("33: towers 64", x.offer(1, 1, 64, 1));
        Due.no("33: towers -1", x.offer(1, 1, -1, 1));
        Due.no("33: many 7", x.offer(1, 1, 1, 7));
        Due.no("33: many -1", x.offer(1, 1, 1, -1));
    }

    private static void bought(String what, MenOnCradles x, int cost, int offers) {
        Due.due("34: " + what + ", cost", x.buy(0), cost);
        Due.due("34: " + what + ", offers", x.buy(1), offers);
    }

    private static void promise34() {
        MenOnCradles x = new MenOnCradles();
        bought("no tower told", x, 0, 0);
        x.offer(7, 0, 63, 6);
        bought("no tower told, an offer for nothing", x, 0, 0);
        x.offer(7, 0, 63, 0);
        for (int t : new int[] {0, 2, 5}) x.tower(t, 1, 1);
        bought("no offer", x, -1, -1);
        x.offer(3, 50, 1 + 4 + 32, 2);
        bought("for two of three", x, -1, -1);
        x.offer(6, 30, 2 + 8 + 16, 6);
        bought("for towers not told", x, -1, -1);
        x.offer(4, 50, 1, 1);
        bought("together", x, 100, 8 + 16);
        x.offer(5, 100, 63, 3);
        bought("of equal ones the least as bits", x, 100, 8 + 16);
        x.offer(2, 100, 63, 3);
        bought("a lesser one", x, 100, 4);
        x.offer(2, 99, 63, 2);
        bought("for too few", x, 100, 8 + 16);
        x.offer(0, 10, 4, 1);
        bought("one that helps", x, 60, 1 + 8);
        x.offer(1, 0, 32, 1);
        bought("one that costs nothing", x, 50, 2 + 8);
        x.offer(7, 0, 63, 1);
        bought("another that costs nothing", x, 10, 1 + 2 + 128);
        x.offer(0, 0, 16, 1);
        bought("not one that is of no use", x, 50, 2 + 8);
        Due.none("34: what 2", x.buy(2));
        Due.none("34: what -1", x.buy(-1));
    }

    /** Each offer must be given to the right tower: the first that fits is not always the one. */
    private static void shared34() {
        MenOnCradles x = new MenOnCradles();
        for (int t = 0; t < 6; t++) x.tower(t, 1, 1);
        x.offer(0, 1, 1 + 2, 1);
        x.offer(1, 1, 2 + 4, 1);
        x.offer(2, 1, 4 + 8, 1);
        x.offer(3, 1, 8 + 16, 1);
        x.offer(4, 1, 16 + 32, 1);
        x.offer(5, 1, 32, 1);
        bought("a chain", x, 6, 63);
        x.offer(5, 1, 1, 1);
        bought("a chain the other way", x, 6, 63);
        x.offer(5, 1, 63, 1);
        bought("a chain with any", x, 6, 63);
        x.offer(4, 1, 2, 1);
        bought("a chain turned round in its midst", x, 6, 63);
        x.offer(5, 1, 31, 1);
        bought("six for five of them", x, -1, -1);
        x.offer(6, 7, 63, 6);
        bought("one for all", x, 7, 64);
    }

    private static void promise35() {
        MenOnCradles x = new MenOnCradles();
        Due.yes("35: the first week", x.away(0, 0, true));
        Due.due("35: passed over", x.rota(3, 0), 6);
        Due.yes("35: not away", x.away(0, 0, false));
        Due.due("35: on call", x.rota(3, 0), 3);
        Due.yes("35: the last", x.away(9, 19, true));
        Due.no("35: person 10", x.away(10, 0, true));
        Due.no("35: person -1", x.away(-1, 0, true));
        Due.no("35: week 20", x.away(0, 20, true));
        Due.no("35: week -1", x.away(0, -1, true));
    }

    private static void promise36() {
        MenOnCradles x = new MenOnCradles();
        int[] four = {3, 12, 3, 12};
        for (int w = 0; w < 4; w++) Due.due("36: of four, week " + w, x.rota(4, w), four[w]);
        int[] three = {3, 5, 6, 3, 5, 6};
        for (int w = 0; w < 6; w++) Due.due("36: of three, week " + w, x.rota(3, w), three[w]);
        for (int w = 0; w < 20; w++) Due.due("36: of two, week " + w, x.rota(2, w), 3);
        Due.due("36: of ten, week 4", x.rota(10, 4), 768);
        Due.due("36: of ten, week 19", x.rota(10, 19), 768);
        x.away(2, 1, true);
        x.away(0, 1, true);
        int[] away = {3, 2, 5, 6, 5, 3};
        for (int w = 0; w < 6; w++) Due.due("36: 0 and 2 away in week 1, week " + w, x.rota(3, w), away[w]);
        x.away(1, 1, true);
        Due.due("36: all away", x.rota(3, 1), 0);
        Due.due("36: of four, one is there", x.rota(4, 1), 8);
        Due.none("36: n 1", x.rota(1, 0));
        Due.none("36: n 11", x.rota(11, 0));
        Due.none("36: week 20", x.rota(3, 20));
        Due.none("36: week -1", x.rota(3, -1));
    }

    public static void main(String[] args) {
        promise31();
        promise32();
        promise33();
        promise34();
        shared34();
        promise35();
        promise36();
        Due.end("PeopleTest");
    }
}
