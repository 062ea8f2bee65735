/** Part III of the terms, what is worth knowing, bargains, votes, what is seen, odds: sentence by sentence, at the bounds. */
public final class ReckoningEdgesTest {
    private static void due(String call, long want, long got) {
        Checks.due(call, want, got);
    }

    private static ThanksByPost owners(int... lives) {
        ThanksByPost x = new ThanksByPost();
        for (int i : lives) x.owner(i);
        return x;
    }

    private static ThanksByPost votes(int... votes) {
        ThanksByPost x = new ThanksByPost();
        for (int i : votes) x.vote(i);
        return x;
    }

    public static void main(String[] args) {
        worthRoom();
        worthLikeOnes();
        worthWherever();
        whoseByTheBook();
        twiceByTheBook();
        bargainBounds();
        bargainByTurns();
        bargainPot();
        voteBounds();
        theMiddle();
        theMean();
        lyingBounds();
        lyingMiddle();
        lyingMean();
        seenBounds();
        ruleBounds();
        ruleLowest();
        oddsBounds();
        oddsLowestTerms();
        Checks.end();
    }

    // ---- worth keeping

    private static void worthRoom() {
        Checks.at("WORTH KEEPING: a set with BULK no more than a told room (0 .. 99)");
        ThanksByPost x = new ThanksByPost();
        for (int room : new int[] {-1, 100}) due("worth(" + room + ")", -1, x.worth(room));
        due("without things", 0, x.worth(0));
        due("without things", 0, x.worth(99));
        x.owner(1);
        for (int i = 0; i < 8; i++) x.thing(50, 0, 9);
        due("nothing in no room", 0, x.worth(0));
        for (int room = 1; room <= 99; room++) {
            int many = Math.min(8, room / 9);
            due("worth(" + room + ")", (1 << many) - 1, x.worth(room));
        }
        due("ROOM as told doesn't matter", 9, x.about(2));
        for (int room : new int[] {-1, 100}) due("worth(" + room + ")", -1, x.worth(room));
        x = owners(1);
        x.thing(99, 0, 9);
        due("eight are one too few", 0, x.worth(8));
        due("just its bulk", 1, x.worth(9));
    }

    private static void worthLikeOnes() {
        Checks.at("WORTH KEEPING: that is most DEAR together; of like ones the lowest set (bits)");
        ThanksByPost x = owners(1);
        x.thing(0, 0, 1);
        due("nothing is as dear as what is not dear, and lower", 0, x.worth(99));
        x.thing(1, 0, 2);
        due("what is just dear", 2, x.worth(2));
        x.thing(1, 0, 2);
        due("the lower of like ones", 2, x.worth(3));
        due("both", 6, x.worth(4));
        x.thing(2, 0, 4);
        due("both, though the one is as dear", 6, x.worth(4));
        x.thing(3, 0, 4);
        due("what is dearer than both", 16, x.worth(4));
        x.thing(3, 0, 1);
        due("as dear, and 32 is above 16: of bulk 4", 34, x.worth(4));
        due("of bulk 1", 32, x.worth(1));
        x = owners(1);
        x.thing(30, 0, 5);
        x.thing(20, 0, 5);
        x.thing(10, 0, 5);
        x.thing(30, 0, 5);
        due("30 and 20, not 20 and 30", 9, x.worth(10));
        due("30 alone", 1, x.worth(9));
        due("all but the least", 11, x.worth(15));
    }

    private static void worthWherever() {
        Checks.at("WORTH KEEPING: of all THINGS, wherever they are");
        ThanksByPost x = owners(1, 1);
        x.thing(30, 0, 5);
        x.thing(40, 1, 5);
        due("the dearer", 2, x.worth(5));
        x.steal(0);
        due("kept or not", 2, x.worth(5));
        x.day(8);
        due("as dear as it is now", 2, x.worth(5));
        Checks.rule(x, "dears 2;");
        x.day(1);
        due("as dear as the other: the lower", 1, x.worth(5));
        x.undo();
        due("as it was", 2, x.worth(5));
        due("the room that is there doesn't matter", 3, x.worth(10));
        x.room(0);
        due("not even if there is none", 3, x.worth(10));
    }

    // ---- the book

    private static void whoseByTheBook() {
        Checks.at("WHOSE: of a THING by the BOOK: OWNERS (bits) to whom it came back");
        ThanksByPost x = owners(1, 1, 1, 1, 1, 1);
        due("no such thing", -1, x.whose(0));
        for (int i = 0; i < 8; i++) x.thing(5, i % 6, 1);
        for (int i = 0; i < 8; i++) due("none by an empty book", 0, x.whose(i));
        due("thing -1", -1, x.whose(-1));
        due("thing 8", -1, x.whose(8));
        int bits = 0;
        for (int owner = 5; owner >= 0; owner--) {
            x.give(7, owner);
            due("a gift is not written", bits, x.whose(7));
            x.steal(7);
            due("a theft isn't either", bits, x.whose(7));
            x.send(7);
            bits |= 1 << owner;
            due("to " + owner + " as well", bits, x.whose(7));
        }
        due("none of the others", 0, x.whose(6));
        for (int i = 0; i < 24; i++) {
            x.steal(0);
            x.send(0);
        }
        due("all six yet", 63, x.whose(7));
        x.steal(0);
        x.send(0);
        due("the eldest has gone from the book", 31, x.whose(7));
        x.undo();
        due("and is there again", 63, x.whose(7));
        asDearAsCanBe();
    }

    /** How dear it came back is nothing to who had it. */
    private static void asDearAsCanBe() {
        Checks.at("WHOSE and TWICE: returns of 0 and of 99 DEAR");
        for (int dear : new int[] {0, 99}) {
            ThanksByPost x = owners(1, 1, 1, 1, 1, 1);
            x.room(99);
            for (int i = 0; i < 8; i++) x.thing(dear, 5 - i % 6, 1);
            for (int i = 0; i < 8; i++) {
                x.steal(i);
                x.send(i);
                due("dear as it was", dear, x.book(i, 3));
            }
            for (int i = 0; i < 8; i++) due("whose " + i, 1 << 5 - i % 6, x.whose(i));
            due("none twice", 0, x.twice());
            x.steal(6);
            x.send(6);
            due("the one", 64, x.twice());
            x.give(5, 1);
            x.steal(5);
            x.send(5);
            due("to another", 3, x.whose(5));
            due("the one yet", 64, x.twice());
        }
    }

    private static void twiceByTheBook() {
        Checks.at("TWICE: THINGS (bits) that came back to one OWNER more than once, by the BOOK");
        due("new", 0, new ThanksByPost().twice());
        ThanksByPost x = owners(1, 1, 1, 1, 1, 1);
        for (int i = 0; i < 8; i++) x.thing(5, i % 6, 1);
        for (int i = 0; i < 8; i++) {
            x.steal(i);
            x.send(i);
            due("once each", 0, x.twice());
        }
        for (int owner = 5; owner >= 2; owner--) {
            x.give(7, owner);
            x.steal(7);
            x.send(7);
            due("to another each time", 0, x.twice());
        }
        x.give(7, 3);
        x.steal(7);
        x.send(7);
        due("to one for the second time", 128, x.twice());
        x.steal(7);
        x.send(7);
        due("and the third", 128, x.twice());
        x.steal(0);
        x.send(0);
        due("the first as well", 129, x.twice());
        for (int i = 0; i < 14; i++) {
            x.steal(1);
            x.send(1);
        }
        due("more of another", 131, x.twice());
        due("not full", 29, x.book(-1, 0));
        x.steal(1);
        x.send(1);
        due("just full", 131, x.twice());
        x.steal(1);
        x.send(1);
        due("the first return of the first has gone: once is not twice", 130, x.twice());
        x.undo();
        due("there again", 131, x.twice());
    }

    // ---- a bargain

    private static void bargainBounds() {
        Checks.at("A BARGAIN of a pot w (0 .. 9999) over n offers (1 .. 20), d (0 .. 9999) less");
        ThanksByPost x = new ThanksByPost();
        for (boolean second : new boolean[] {false, true}) {
            for (int w : new int[] {-1, 10000}) due("w " + w, -1, x.bargain(w, 1, 0, second));
            for (int n : new int[] {-1, 0, 21}) due("n " + n, -1, x.bargain(5, n, 0, second));
            for (int d : new int[] {-1, 10000}) due("d " + d, -1, x.bargain(5, 1, d, second));
            due("no pot", 0, x.bargain(0, 1, 0, second));
            due("no pot", 0, x.bargain(0, 20, 9999, second));
            due("one offer", second ? 0 : 9999, x.bargain(9999, 1, 9999, second));
            due("twenty of a pot that stays: the last one to offer is the second", second ? 9999 : 0, x.bargain(9999, 20, 0, second));
            due("nineteen: it is the first", second ? 0 : 9999, x.bargain(9999, 19, 0, second));
            due("two of a pot that ends", second ? 0 : 9999, x.bargain(9999, 2, 9999, second));
            due("two of a pot that all but ends", second ? 1 : 9998, x.bargain(9999, 2, 9998, second));
        }
    }

    private static void bargainByTurns() {
        Checks.at("two offer by turns, the first one first; who is offered takes as much as it would have had by refusing");
        // Pots 100, 93, 86 ..: from the last back, what the offering one has is the pot less what the other would have.
        int[] first = {100, 7, 93, 14, 86, 21, 79, 28, 72, 35};
        ThanksByPost x = new ThanksByPost();
        for (int n = 1; n <= 10; n++) {
            due("first of " + n, first[n - 1], x.bargain(100, n, 7, false));
            due("second of " + n, 100 - first[n - 1], x.bargain(100, n, 7, true));
        }
    }

    private static void bargainPot() {
        Checks.at("the pot being d less behind each offer that is refused (0 at least); behind the last refusal neither has anything");
        ThanksByPost x = new ThanksByPost();
        // Pots 10, 6, 2, 0, 0: 0; 0; 2 - 0; 6 - 2; 10 - 4.
        int[] first = {10, 4, 6, 6, 6};
        for (int n = 1; n <= 5; n++) {
            due("first of " + n, first[n - 1], x.bargain(10, n, 4, false));
            due("second of " + n, 10 - first[n - 1], x.bargain(10, n, 4, true));
        }
        due("twenty", 6, x.bargain(10, 20, 4, false));
        // Pots 8, 4, 0: just nothing.
        due("just nothing", 4, x.bargain(8, 3, 4, false));
        due("just nothing", 4, x.bargain(8, 20, 4, true));
        due("nothing but the first", 5, x.bargain(5, 20, 9999, false));
    }

    // ---- votes

    private static void voteBounds() {
        Checks.at("VOTES (9 at most; told): a number 0 .. 99");
        ThanksByPost x = new ThanksByPost();
        due("none of none", 0, x.vote(-1));
        for (int i = 1; i <= 9; i++) {
            for (int wrong : new int[] {-2, 100}) due("vote(" + wrong + ")", -2, x.vote(wrong));
            due("votes", i - 1, x.about(9));
            due("vote", i, x.vote(i % 2 * 99));
        }
        due("a tenth", -2, x.vote(0));
        due("votes", 9, x.about(9));
        due("the middle of them", 99, x.voted(false));
        due("none any more", 0, x.vote(-1));
        due("votes", 0, x.about(9));
        due("the first again", 1, x.vote(99));
        due("its middle", 99, x.voted(false));
    }

    private static void theMiddle() {
        Checks.at("THE MIDDLE: of all VOTES by size the one with as many below as above, of two the lower. NONE without VOTES");
        due("without", -1, votes().voted(false));
        due("one", 0, votes(0).voted(false));
        due("one", 99, votes(99).voted(false));
        due("of two the lower", 0, votes(99, 0).voted(false));
        due("of two the lower", 0, votes(0, 99).voted(false));
        due("of two like ones", 7, votes(7, 7).voted(false));
        int[][] three = {{1, 5, 9}, {1, 9, 5}, {5, 1, 9}, {5, 9, 1}, {9, 1, 5}, {9, 5, 1}};
        for (int[] v : three) {
            due("of three", 5, votes(v).voted(false));
            due("of four, the lowest more", 1, votes(v[0], v[1], v[2], 0).voted(false));
            due("of four, the highest more", 5, votes(99, v[0], v[1], v[2]).voted(false));
            due("of five", 5, votes(0, v[0], v[1], 99, v[2]).voted(false));
        }
        due("of eight the fourth", 40, votes(80, 70, 60, 50, 40, 30, 20, 10).voted(false));
        due("of nine the fifth", 50, votes(10, 90, 20, 80, 30, 70, 40, 60, 50).voted(false));
        due("of nine, most alike", 3, votes(3, 3, 3, 3, 3, 99, 99, 99, 99).voted(false));
        due("of nine, one less alike", 99, votes(3, 3, 3, 3, 99, 99, 99, 99, 99).voted(false));
    }

    private static void theMean() {
        Checks.at("THE MEAN: all together by how many, cut. NONE without VOTES");
        due("without", -1, votes().voted(true));
        due("one", 99, votes(99).voted(true));
        due("0", 0, votes(0, 0, 0).voted(true));
        due("a half is cut", 49, votes(0, 99).voted(true));
        due("all but one is cut", 0, votes(0, 0, 0, 0, 0, 0, 0, 0, 8).voted(true));
        due("one", 1, votes(0, 0, 0, 0, 0, 0, 0, 0, 9).voted(true));
        due("nine of 99", 99, votes(99, 99, 99, 99, 99, 99, 99, 99, 99).voted(true));
        due("nine of 99 but one", 98, votes(99, 99, 99, 99, 98, 99, 99, 99, 99).voted(true));
    }

    private static void lyingBounds() {
        Checks.at("LYING of the k-th VOTE: NONE for others; (0: none)");
        for (boolean mean : new boolean[] {false, true}) {
            due("without votes", -1, votes().lying(0, mean));
            due("no vote -1", -1, votes(5).lying(-1, mean));
            due("no vote 1", -1, votes(5).lying(1, mean));
            due("alone it has it", 0, votes(5).lying(0, mean));
            ThanksByPost x = votes(9, 8, 7, 6, 5, 4, 3, 2, 1);
            due("no vote 9", -1, x.lying(9, mean));
            due("the one in the middle has it", 0, x.lying(4, mean));
            due("all as told behind it", 5, x.voted(mean));
            for (int k = 0; k < 9; k++) x.lying(k, mean);
            due("all as told behind all", 5, x.voted(mean));
            due("votes", 9, x.about(9));
        }
    }

    private static void lyingMiddle() {
        Checks.at("LYING: by how much nearer to its VOTE a thief can have THE MIDDLE, telling any other number 0 .. 99");
        int[][] all = {{0, 99}, {99, 0}, {5, 50, 95}, {50, 5, 95}, {1, 2, 3, 4}, {9, 9, 0, 1, 50}, {0, 0, 0, 99, 99, 99, 98, 1, 2}};
        for (int[] v : all) {
            for (int k = 0; k < v.length; k++) due("nobody gains by the middle", 0, votes(v).lying(k, false));
        }
    }

    private static void lyingMean() {
        Checks.at("LYING: by how much nearer to its VOTE a thief can have THE MEAN");
        // 0 and 99: 49. The one with 0 can tell nothing lower, the one with 99 nothing higher.
        due("0 has the lowest", 0, votes(0, 99).lying(0, true));
        due("99 has the highest", 0, votes(0, 99).lying(1, true));
        // 1 and 99: 50; with 0 it is 49.
        due("one nearer by 0", 1, votes(1, 99).lying(0, true));
        // 98 and 0: 49; with 99 it is 49.
        due("no nearer by 99", 0, votes(98, 0).lying(0, true));
        // 97 and 0: 48; with 99 it is 49.
        due("one nearer by 99", 1, votes(97, 0).lying(0, true));
        // 40 and 60: 50; with 0 it is 30, with 20 it is 40 itself.
        due("all of it", 10, votes(40, 60).lying(0, true));
        due("all of it", 10, votes(40, 60).lying(1, true));
        // 50 and 49: 49; with 51 it is 50.
        due("by what is cut", 1, votes(50, 49).lying(0, true));
        due("it has it", 0, votes(50, 49).lying(1, true));
        // 10 of nine, the others 99: (792 + 10) / 9 = 89; with 0 it is 88.
        due("of nine", 1, votes(10, 99, 99, 99, 99, 99, 99, 99, 99).lying(0, true));
        // 90, the others 0: 10; with 99 it is 11.
        due("of nine", 1, votes(0, 0, 0, 0, 0, 0, 0, 0, 90).lying(8, true));
        // 9, the others 0: 1; with 81 it is 9.
        due("of nine, all of it", 8, votes(0, 0, 0, 0, 0, 0, 0, 0, 9).lying(8, true));
    }

    // ---- seen happy

    private static void seenBounds() {
        Checks.at("SEEN HAPPY (9 at most; told): a DEAR 0 .. 99, a BULK 1 .. 9");
        ThanksByPost x = new ThanksByPost();
        due("none of none", 0, x.seen(-1, 5, false));
        int[][] right = {{0, 1}, {0, 9}, {99, 1}, {99, 9}, {50, 5}, {0, 5}, {99, 5}, {50, 1}, {50, 9}};
        for (int i = 0; i < 9; i++) {
            for (int dear : new int[] {-2, 100}) due("dear " + dear, -2, x.seen(dear, 5, true));
            for (int bulk : new int[] {-1, 0, 10}) due("bulk " + bulk, -2, x.seen(5, bulk, true));
            due("seen", i, x.about(10));
            due("seen", i + 1, x.seen(right[i][0], right[i][1], true));
        }
        due("a tenth", -2, x.seen(5, 5, true));
        due("seen", 9, x.about(10));
        due("none any more", 0, x.seen(-1, 0, true));
        due("seen", 0, x.about(10));
        due("nothing seen", 1, x.rule());
    }

    /** Threes of dear, bulk and 1 where happy. */
    private static int rule(int... seen) {
        ThanksByPost x = new ThanksByPost();
        for (int i = 0; i < seen.length; i += 3) x.seen(seen[i], seen[i + 1], seen[i + 2] == 1);
        return x.rule();
    }

    private static void ruleBounds() {
        Checks.at("THE RULE: happy without are just those with DEAR d at least and BULK b at least (d 0 .. 100, b 1 .. 10)");
        due("nothing seen", 1, rule());
        due("one happy", 1, rule(0, 1, 1));
        due("one unhappy, by bulk", 2, rule(0, 1, 0));
        due("one unhappy, of the most bulk", 10, rule(0, 9, 0));
        due("one unhappy, dear and bulky", 10, rule(99, 9, 0));
        due("at least: just as dear, just as bulky", 3004, rule(30, 4, 1, 29, 9, 0, 99, 3, 0));
        due("the highest d there can be", 9901, rule(99, 1, 1, 98, 9, 0));
        due("d and b at most", 9909, rule(99, 9, 1, 98, 9, 0, 99, 8, 0));
        due("both at once", -1, rule(50, 5, 1, 50, 5, 0));
        due("a dearer one unhappy, a less dear one happy", -1, rule(50, 5, 1, 60, 5, 0));
        due("a bulkier one unhappy", -1, rule(50, 5, 1, 50, 6, 0));
        due("none are happy", 10, rule(0, 1, 0, 99, 9, 0, 0, 9, 0, 99, 1, 0));
        // By b 10 alone none are happy, whatever d; d 100 is never the lowest.
        due("nine of them", 2005, rule(20, 5, 1, 19, 9, 0, 20, 4, 0, 99, 9, 1, 20, 9, 1, 99, 5, 1, 0, 1, 0, 99, 4, 0, 19, 4, 0));
    }

    private static void ruleLowest() {
        Checks.at("THE RULE: the lowest d by which some b fits all, then the lowest b: d * 100 + b; none");
        due("d 0 by b 6", 6, rule(40, 6, 1, 90, 5, 0));
        due("d 0 by b 6, though d 41 would be by b 1", 6, rule(50, 6, 1, 40, 5, 0));
        due("d 41 by b 1", 4101, rule(50, 6, 1, 40, 6, 0));
        due("then the lowest b above what isn't", 4104, rule(50, 6, 1, 40, 6, 0, 60, 3, 0));
        due("not above what is", -1, rule(50, 6, 1, 40, 6, 0, 60, 6, 0));
    }

    // ---- odds

    private static void oddsBounds() {
        Checks.at("ODDS that all OWNERS of a set (bits; not none) live n more YEARS (0 .. 3)");
        for (int count = 0; count <= 6; count++) {
            ThanksByPost x = new ThanksByPost();
            for (int i = 0; i < count; i++) x.owner(9);
            for (boolean low : new boolean[] {false, true}) {
                due("none of " + count, -1, x.odds(0, 1, low));
                due("one beyond " + count, -1, x.odds(1 << count, 1, low));
                due("all and one beyond " + count, -1, x.odds((1 << count + 1) - 1, 1, low));
                due("-1 of " + count, -1, x.odds(-1, 1, low));
                if (count > 0) {
                    long want = 1;
                    for (int i = 0; i < 3 * count; i++) want *= low ? 10 : 9;
                    due("all " + count, want, x.odds((1 << count) - 1, 3, low));
                    due("the last of " + count, low ? 10 : 9, x.odds(1 << count - 1, 1, low));
                    due("no year", 1, x.odds((1 << count) - 1, 0, low));
                    for (int n : new int[] {-1, 4}) due("n " + n, -1, x.odds(1, n, low));
                }
            }
        }
    }

    private static void odds(long upper, long lower, int n, int... lives) {
        ThanksByPost x = owners(lives);
        due("upper", upper, x.odds((1 << lives.length) - 1, n, false));
        due("lower", lower, x.odds((1 << lives.length) - 1, n, true));
    }

    private static void oddsLowestTerms() {
        Checks.at("ODDS: in lowest terms");
        odds(0, 1, 1, 0);
        odds(0, 1, 3, 0);
        odds(1, 1, 0, 0);
        odds(1, 1, 3, 10);
        odds(1, 10, 1, 1);
        odds(1, 1000, 3, 1);
        odds(1, 8, 3, 5);
        odds(8, 125, 3, 4);
        odds(343, 1000, 3, 7);
        odds(1, 5, 1, 4, 5);
        odds(2, 5, 1, 8, 5);
        odds(0, 1, 3, 10, 10, 10, 10, 10, 0);
        odds(1, 1, 3, 10, 10, 10, 10, 10, 10);
        odds(1, 1000000000000000000L, 3, 1, 1, 1, 1, 1, 1);
        odds(150094635296999121L, 1000000000000000000L, 3, 9, 9, 9, 9, 9, 9);
        odds(1, 262144, 3, 5, 5, 5, 5, 5, 5);
        // 4 and 5, each to the eighteenth.
        odds(68719476736L, 3814697265625L, 3, 8, 8, 8, 8, 8, 8);
        ThanksByPost x = owners(5, 9, 10, 0, 1, 2);
        due("of those alone that are in the set", 9, x.odds(2 + 4, 1, false));
        due("of those alone that are in the set", 1, x.odds(1 + 32, 1, false));
        due("of those alone that are in the set", 10, x.odds(1 + 32, 1, true));
    }
}
