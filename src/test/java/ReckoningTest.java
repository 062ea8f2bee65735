/** Promises 26 to 28 and 30 to 37: what is worth knowing of things, votes, thieves and owners. */
public final class ReckoningTest {
    private static final int MIN = Integer.MIN_VALUE;
    private static final int MAX = Integer.MAX_VALUE;

    private static void due(String call, long want, long got) {
        Checks.due(call, want, got);
    }

    private static ThanksByPost city(int... lives) {
        ThanksByPost x = new ThanksByPost();
        for (int i : lives) x.owner(i);
        return x;
    }

    public static void main(String[] args) {
        promise26();
        promise27();
        promise28();
        promise30();
        promise31();
        promise32();
        promise33();
        promise34();
        promise35();
        promise36();
        promise37();
        earlyBounds();
        Checks.end();
    }

    private static void promise26() {
        Checks.at("promise 26");
        ThanksByPost x = city(1);
        due("no things", 0, x.worth(99));
        x.thing(10, 0, 2);
        x.thing(20, 0, 4);
        x.thing(0, 0, 1);
        x.thing(10, 0, 2);
        x.thing(29, 0, 6);
        due("worth(-1)", -1, x.worth(-1));
        due("worth(100)", -1, x.worth(100));
        due("worth(MAX)", -1, x.worth(MAX));
        due("nothing fits", 0, x.worth(0));
        ThanksByPost cheap = city(1);
        cheap.thing(0, 0, 1);
        cheap.thing(1, 0, 1);
        due("the least dear that is dear", 2, cheap.worth(1));
        due("nothing dear fits", 0, x.worth(1));
        due("the lowest of like ones", 1, x.worth(2));
        due("the lowest of like ones", 2, x.worth(4));
        due("two small ones and one", 3, x.worth(6));
        due("most dear", 11, x.worth(8));
        due("most dear", 18, x.worth(10));
        due("all that are dear", 27, x.worth(99));
        x.steal(0);
        due("wherever they are", 1, x.worth(2));
        x.day(1);
        due("as dear as now: 11, 10 and 29", 25, x.worth(10));
        Checks.due("nothing changes", -1, x.of(0, 3));
    }

    private static void promise27() {
        Checks.at("promise 27");
        ThanksByPost x = city(1, 1, 1);
        x.thing(1, 0, 1);
        x.thing(1, 2, 1);
        due("whose(-1)", -1, x.whose(-1));
        due("whose(2)", -1, x.whose(2));
        due("whose(MIN)", -1, x.whose(MIN));
        due("none yet", 0, x.whose(0));
        x.steal(0);
        x.steal(1);
        due("kept", 0, x.whose(1));
        x.send(1);
        x.day(9);
        due("by a sending", 4, x.whose(1));
        due("by a day", 1, x.whose(0));
        x.give(0, 1);
        due("a gift is no return", 1, x.whose(0));
        x.steal(0);
        x.send(0);
        due("two", 3, x.whose(0));
        for (int i = 0; i < 29; i++) {
            x.steal(1);
            x.send(1);
        }
        due("the book's latest thirty alone", 2, x.whose(0));
        x.undo();
        due("the book as it was", 3, x.whose(0));
    }

    private static void promise28() {
        Checks.at("promise 28");
        ThanksByPost x = city(1, 1);
        for (int i = 0; i < 8; i++) x.thing(1, 0, 1);
        due("none", 0, x.twice());
        for (int i = 0; i < 2; i++) {
            x.steal(0);
            x.send(0);
            x.steal(7);
            x.send(7);
            x.give(7, 1);
        }
        due("not to two owners", 1, x.twice());
        x.give(7, 0);
        x.steal(7);
        x.send(7);
        due("to one owner", 129, x.twice());
        x.undo();
        due("taken back", 1, x.twice());
        for (int i = 0; i < 28; i++) {
            x.steal(3);
            x.send(3);
        }
        due("the eldest are gone", 8, x.twice());
        x = city(1);
        x.thing(1, 0, 1);
        x.steal(0);
        x.send(0);
        due("once", 0, x.twice());
        x.steal(0);
        x.send(0);
        due("twice and no more", 1, x.twice());
    }

    private static void promise30() {
        Checks.at("promise 30");
        ThanksByPost x = new ThanksByPost();
        // Pots 100, 90, 80, 70: from the last 70; 80 - 70; 90 - 10; 100 - 80.
        due("four offers", 20, x.bargain(100, 4, 10, false));
        due("four offers", 80, x.bargain(100, 4, 10, true));
        due("one offer", 9999, x.bargain(9999, 1, 9999, false));
        due("two offers, nothing left", 9999, x.bargain(9999, 2, 9999, false));
        due("two offers, nothing left", 0, x.bargain(9999, 2, 9999, true));
        due("two offers, nothing less", 0, x.bargain(50, 2, 0, false));
        due("two offers, nothing less", 50, x.bargain(50, 2, 0, true));
        due("twenty", 10, x.bargain(100, 20, 1, false));
        due("twenty", 90, x.bargain(100, 20, 1, true));
        due("nineteen", 91, x.bargain(100, 19, 1, false));
        due("the pot ends", 20, x.bargain(40, 20, 2, false));
        due("no pot", 0, x.bargain(0, 7, 3, true));
        int[][] wrong = {{-1, 1, 0}, {10000, 1, 0}, {1, 0, 0}, {1, 21, 0}, {1, 1, -1}, {1, 1, 10000}, {MAX, 1, 0}, {1, MIN, 0}};
        for (int[] w : wrong) due("wrong", -1, x.bargain(w[0], w[1], w[2], false));
    }

    private static void promise31() {
        Checks.at("promise 31");
        ThanksByPost x = new ThanksByPost();
        for (int w : new int[] {-2, 100, MIN, MAX}) due("wrong", -2, x.vote(w));
        for (int i = 1; i <= 9; i++) due("vote", i, x.vote(i == 1 ? 0 : i == 9 ? 99 : 50));
        due("a tenth", -2, x.vote(1));
        due("votes", 9, x.about(9));
        due("none any more", 0, x.vote(-1));
        due("votes", 0, x.about(9));
    }

    private static void promise32() {
        Checks.at("promise 32");
        ThanksByPost x = new ThanksByPost();
        due("none", -1, x.voted(false));
        due("none", -1, x.voted(true));
        int[] votes = {70, 3, 99, 40, 3, 0, 98, 97, 41};
        int[] middle = {70, 3, 70, 40, 40, 3, 40, 40, 41};
        int[] mean = {70, 36, 57, 53, 43, 35, 44, 51, 50};
        for (int i = 0; i < 9; i++) {
            x.vote(votes[i]);
            due("the middle of " + (i + 1), middle[i], x.voted(false));
            due("the mean of " + (i + 1), mean[i], x.voted(true));
        }
    }

    private static void promise33() {
        Checks.at("promise 33");
        ThanksByPost x = new ThanksByPost();
        due("none", -1, x.lying(0, false));
        x.vote(10);
        due("alone", 0, x.lying(0, false));
        due("alone", 0, x.lying(0, true));
        x.vote(90);
        // Of two the middle is the lower: the one with 90 can tell no more than 10 away, the one with 10 has it.
        due("the lower has it", 0, x.lying(0, false));
        due("the higher can't", 0, x.lying(1, false));
        due("the mean: 0 and 90", 5, x.lying(0, true));
        due("the mean: 10 and 99", 4, x.lying(1, true));
        x.vote(-1);
        x.vote(0);
        x.vote(99);
        x.vote(99);
        due("0 can't go lower", 0, x.lying(0, true));
        due("99 can't go higher", 0, x.lying(1, true));
        due("the middle of three", 0, x.lying(0, false));
        x.vote(-1);
        for (int v : new int[] {50, 60, 70}) x.vote(v);
        due("the mean is 60: 20, 60, 70 make it 50", 10, x.lying(0, true));
        due("it has it", 0, x.lying(1, true));
        due("50, 60, 99: 69", 9, x.lying(2, true));
        for (int k : new int[] {-1, 3, MIN, MAX}) due("wrong", -1, x.lying(k, true));
        due("votes stay", 60, x.voted(true));
        x.vote(-1);
        x.vote(50);
        x.vote(0);
        due("99 alone is nearest: 49 for 25", 24, x.lying(0, true));
        x.vote(-1);
        x.vote(50);
        x.vote(1);
        due("99 alone has it", 25, x.lying(0, true));
        x.vote(-1);
        x.vote(1);
        x.vote(4);
        due("0 alone is nearest: 2 for 2", 0, x.lying(0, true));
        x.vote(-1);
        x.vote(1);
        x.vote(3);
        due("0 alone is nearest: 1 for 2", 1, x.lying(0, true));
    }

    private static void promise34() {
        Checks.at("promise 34");
        ThanksByPost x = new ThanksByPost();
        int[][] wrong = {{-2, 1}, {100, 1}, {0, 0}, {0, 10}, {MAX, 1}, {0, MIN}, {0, -1}};
        for (int[] w : wrong) due("wrong", -2, x.seen(w[0], w[1], true));
        due("least", 1, x.seen(0, 1, false));
        due("most", 2, x.seen(99, 9, true));
        for (int i = 3; i <= 9; i++) due("seen", i, x.seen(50, 5, true));
        due("a tenth", -2, x.seen(50, 5, true));
        due("seen", 9, x.about(10));
        due("none any more", 0, x.seen(-1, 0, true));
        due("seen", 0, x.about(10));
    }

    private static void promise35() {
        Checks.at("promise 35");
        ThanksByPost x = new ThanksByPost();
        due("nothing seen", 1, x.rule());
        x.seen(40, 5, true);
        due("all are", 1, x.rule());
        x.seen(30, 4, false);
        due("by bulk", 5, x.rule());
        x.seen(30, 6, false);
        due("by dear", 3101, x.rule());
        x.seen(60, 2, false);
        due("by both", 3103, x.rule());
        x.seen(50, 3, true);
        due("by both still", 3103, x.rule());
        x.seen(90, 5, false);
        due("none", -1, x.rule());
        x.seen(-1, 0, false);
        x.seen(99, 9, false);
        due("none is happy", 10, x.rule());
        x.seen(-1, 0, false);
        x.seen(7, 3, true);
        x.seen(7, 3, false);
        due("both", -1, x.rule());
        x.seen(-1, 0, false);
        x.seen(99, 9, true);
        x.seen(98, 9, false);
        due("the dearest alone", 9901, x.rule());
    }

    private static void promise36() {
        Checks.at("promise 36");
        ThanksByPost x = city(5, 9, 10, 0);
        long[][] want = {
            {1, 1, 1, 2}, {1, 3, 1, 8}, {1, 0, 1, 1}, {2, 1, 9, 10}, {2, 3, 729, 1000}, {3, 1, 9, 20}, {3, 2, 81, 400},
            {4, 3, 1, 1}, {7, 1, 9, 20}, {8, 1, 0, 1}, {8, 0, 1, 1}, {15, 3, 0, 1}};
        for (long[] w : want) {
            due("upper of " + w[0] + ", " + w[1], w[2], x.odds((int) w[0], (int) w[1], false));
            due("lower of " + w[0] + ", " + w[1], w[3], x.odds((int) w[0], (int) w[1], true));
        }
        int[][] wrong = {{0, 1}, {16, 1}, {-1, 1}, {1, -1}, {1, 4}, {MIN, 1}, {MAX, 1}, {1, MAX}};
        for (int[] w : wrong) {
            due("wrong", -1, x.odds(w[0], w[1], false));
            due("wrong", -1, x.odds(w[0], w[1], true));
        }
        due("without owners", -1, city().odds(1, 1, false));
        x = city(9, 9, 9, 9, 9, 9);
        due("six for three years", 150094635296999121L, x.odds(63, 3, false));
        due("six for three years", 1000000000000000000L, x.odds(63, 3, true));
        due("beyond six", -1, x.odds(64, 3, true));
    }

    private static void promise37() {
        Checks.at("promise 37");
        ThanksByPost x = city(9, 5, 10);
        x.room(99);
        due("no things", -1, x.early());
        x.thing(60, 0, 1);
        x.thing(20, 1, 1);
        x.thing(99, 2, 1);
        due("none is kept", -1, x.early());
        x.steal(2);
        due("who is sure to live: still the one", 2, x.early());
        x.steal(0);
        due("60 by 1 of 10", 0, x.early());
        x.steal(1);
        due("20 by 1 of 2", 1, x.early());
        x.send(1);
        x.give(1, 0);
        x.steal(1);
        due("by FROM, not the first owner", 0, x.early());
        x.send(1);
        x.give(1, 1);
        x.steal(1);
        due("by FROM again", 1, x.early());
        x.day(8);
        due("a rest of a year is one", 1, x.early());
        Checks.rule(x, "after 0;");
        due("no day to wait: none dies, the lowest", 0, x.early());
        due("nothing changes", -1, x.of(1, 3));
    }

    private static void earlyBounds() {
        Checks.at("promise 37, years");
        // 40 by 1 - (9/10)^y against 20 by 1 - (1/2)^y: 4 and 10; 7.6 and 15; 10.84 and 17.5; 13.756 and 18.75;
        // 16.3804 and 19.375; 18.74236 and 19.6875; a seventh would turn it.
        ThanksByPost x = city(9, 5);
        x.thing(40, 0, 1);
        x.thing(20, 1, 1);
        x.steal(0);
        x.steal(1);
        Checks.rule(x, "after 54;");
        due("six years", 1, x.early());
        Checks.rule(x, "after 9999;");
        due("no more than six", 1, x.early());
        x = city(9, 5);
        x.thing(46, 0, 1);
        x.thing(20, 1, 1);
        x.steal(0);
        x.steal(1);
        // 46 by these: 4.6, 8.74, 12.466, 15.8194, 18.83746, 21.553714.
        Checks.rule(x, "after 45;");
        due("five years", 1, x.early());
        Checks.rule(x, "after 46;");
        due("a day more is a sixth", 0, x.early());
        x = city(5, 5);
        for (int i = 0; i < 3; i++) x.thing(i == 0 ? 10 : 30, i % 2, 1);
        for (int i = 2; i >= 0; i--) x.steal(i);
        due("the lowest of like ones", 1, x.early());
        x.day(5);
        Checks.rule(x, "after 5;");
        due("late already: nothing to wait", 0, x.early());
        waits();
    }

    private static void waits() {
        // 30 by 1 of 10 in a year, 5 by 1 of 2; 5.7 and 3.75 in two.
        ThanksByPost x = city(9, 5);
        x.thing(20, 0, 1);
        x.thing(5, 1, 1);
        x.day(20);
        x.steal(0);
        x.steal(1);
        x.day(7);
        // 27 by 1 of 10: 2.7; 12 by 1 of 2: 6.
        due("dear as now", 1, x.early());
        Checks.rule(x, "after if owner=0 then 60 else 8 end;");
        due("six years for the one: 27 by 0.468559", 0, x.early());
        Checks.rule(x, "after if owner=0 then 25 else 8 end;");
        due("18 days are two years: 27 by 0.19", 1, x.early());
        Checks.rule(x, "after if owner=0 then 26 else 8 end;");
        due("19 days are three years: 27 by 0.271", 0, x.early());
        x = city(9);
        x.thing(50, 0, 1);
        x.thing(27, 0, 1);
        x.steal(0);
        x.steal(1);
        Checks.rule(x, "after if dear=50 then 9 else 18 end;");
        due("50 by 0.1, 27 by 0.19", 1, x.early());
        x = city(9);
        x.thing(52, 0, 1);
        x.thing(27, 0, 1);
        x.steal(0);
        x.steal(1);
        Checks.rule(x, "after if dear=52 then 9 else 18 end;");
        due("52 by 0.1, 27 by 0.19", 0, x.early());
    }
}
