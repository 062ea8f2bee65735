import java.util.LinkedHashMap;
import java.util.Map;
import java.util.function.Supplier;

/** What a call answers that is refused, and that it changes nothing; and what only asks changes nothing either. */
public final class RefusedTest {
    private static final int MIN = Integer.MIN_VALUE;
    private static final int MAX = Integer.MAX_VALUE;

    interface Deed {
        long on(ThanksByPost x);
    }

    private static final Map<String, Supplier<ThanksByPost>> MADE = new LinkedHashMap<>();
    private static final Map<String, String> AS_MADE = new LinkedHashMap<>();

    private static long yes(boolean b) {
        return b ? 1 : 0;
    }

    /** Where a call answers as is due, all that the object answers behind it is as if it had not been called. */
    private static void refused(String state, String call, long want, Deed deed) {
        Checks.at("refused, " + state);
        Checks.due(call, want, deed.on(MADE.get(state).get()));
        unchanged(state, call, deed);
    }

    private static void unchanged(String state, String call, Deed deed) {
        String got = Everything.of(() -> {
            ThanksByPost x = MADE.get(state).get();
            deed.on(x);
            return x;
        });
        Checks.yes(call + " changes nothing", got.equals(AS_MADE.get(state)));
    }

    private static void everywhere(String call, long want, Deed deed) {
        for (String state : MADE.keySet()) refused(state, call, want, deed);
    }

    public static void main(String[] args) {
        MADE.put("new", ThanksByPost::new);
        MADE.put("owners alone", Cities::ownersAlone);
        MADE.put("usual", Cities::usual);
        MADE.put("full", Cities::full);
        MADE.put("last day", Cities::last);
        for (String state : MADE.keySet()) AS_MADE.put(state, Everything.of(MADE.get(state)));
        Checks.at("refused");
        Checks.due("all begin unlike", MADE.size(), AS_MADE.values().stream().distinct().count());
        wrongInts();
        wrongPairs();
        wrongTriples();
        full();
        empty();
        notSo();
        lastDay();
        asking();
        doing();
        Checks.end();
    }

    private static void wrongInts() {
        for (int w : new int[] {-1, 11, MIN, MAX}) everywhere("owner(" + w + ")", -1, x -> x.owner(w));
        for (int w : new int[] {-1, 100, MIN, MAX}) {
            everywhere("room(" + w + ")", 0, x -> yes(x.room(w)));
            everywhere("worth(" + w + ")", -1, x -> x.worth(w));
        }
        for (int w : new int[] {-2, -1, 8, MIN, MAX}) {
            everywhere("steal(" + w + ")", -1, x -> x.steal(w));
            everywhere("send(" + w + ")", -1, x -> x.send(w));
            everywhere("whose(" + w + ")", -1, x -> x.whose(w));
        }
        for (int w : new int[] {-1, 0, 61, MIN, MAX}) everywhere("day(" + w + ")", -1, x -> x.day(w));
        for (int w : new int[] {-1, 301, MIN, MAX}) everywhere("end(" + w + ")", -1, x -> x.end(w));
        for (int w : new int[] {-1, 2, MIN, MAX}) everywhere("fault(" + w + ")", -1, x -> x.fault(w));
        for (int w : new int[] {-2, 4, MIN, MAX}) everywhere("by(" + w + ")", 0, x -> yes(x.by(w)));
        for (int w : new int[] {-2, -1, 4, MIN, MAX}) everywhere("played(" + w + ")", -2, x -> x.played(w));
        for (int w : new int[] {-2, 100, MIN, MAX}) everywhere("vote(" + w + ")", -2, x -> x.vote(w));
        for (int w : new int[] {-1, 12, MIN, MAX}) everywhere("about(" + w + ")", -2, x -> x.about(w));
    }

    private static void wrongPairs() {
        for (int w : new int[] {-2, -1, 8, MIN, MAX}) {
            everywhere("give(" + w + ", 0)", 0, x -> yes(x.give(w, 0)));
            everywhere("of(" + w + ", 0)", -2, x -> x.of(w, 0));
            everywhere("law(" + w + ", 0)", -100000, x -> x.law(w, 0));
        }
        for (int w : new int[] {-2, -1, 6, MIN, MAX}) {
            everywhere("give(0, " + w + ")", 0, x -> yes(x.give(0, w)));
            everywhere("ofOwner(" + w + ", 0)", -2000000, x -> x.ofOwner(w, 0));
            everywhere("pence(1, " + w + ")", -2000000, x -> x.pence(1, w));
        }
        for (int w : new int[] {-1, 3, MIN, MAX}) everywhere("ofOwner(0, " + w + ")", -2000000, x -> x.ofOwner(0, w));
        for (int w : new int[] {-1, 6, MIN, MAX}) everywhere("of(0, " + w + ")", -2, x -> x.of(0, w));
        for (int w : new int[] {-1, 4, MIN, MAX}) {
            for (int thing : new int[] {0, 2, 7}) everywhere("law", -100000, x -> x.law(thing, w));
            everywhere("book(0, " + w + ")", -2, x -> x.book(0, w));
        }
        for (int w : new int[] {-2, 30, MIN, MAX}) everywhere("book(" + w + ", 0)", -2, x -> x.book(w, 0));
        for (int w : new int[] {-1, 0, 61, MIN, MAX}) everywhere("pence(" + w + ", 0)", -2000000, x -> x.pence(w, 0));
        for (int w : new int[] {-1, 10000, MIN, MAX}) everywhere("decades(" + w + ", 1)", -1, x -> x.decades(w, 1));
        for (int w : new int[] {-1, 0, 31, MIN, MAX}) everywhere("decades(1, " + w + ")", -1, x -> x.decades(1, w));
        for (int w : new int[] {-2, 8, MIN, MAX}) everywhere("plan(" + w + ", 0)", -2, x -> x.plan(w, 0));
        for (int w : new int[] {-1, 61, MIN, MAX}) everywhere("plan(0, " + w + ")", -2, x -> x.plan(0, w));
        for (int w : new int[] {-2, -1, 9, MIN, MAX}) {
            everywhere("lying(" + w + ", false)", -1, x -> x.lying(w, false));
            everywhere("lying(" + w + ", true)", -1, x -> x.lying(w, true));
        }
    }

    private static void wrongTriples() {
        int[][] things = {{-1, 0, 1}, {100, 0, 1}, {1, -1, 1}, {1, 6, 1}, {1, 0, 0}, {1, 0, 10}, {MIN, 0, 1}, {MAX, 0, 1},
            {1, MIN, 1}, {1, MAX, 1}, {1, 0, MIN}, {1, 0, MAX}};
        for (int[] w : things) everywhere("thing", -1, x -> x.thing(w[0], w[1], w[2]));
        int[][] foretold = {{0, 0, 0}, {61, 0, 0}, {1, -1, 0}, {1, 8, 0}, {1, 0, -1}, {1, 0, 2}, {MIN, 0, 0}, {MAX, 0, 0},
            {1, MIN, 0}, {1, MAX, 0}, {1, 0, MIN}, {1, 0, MAX}};
        for (int[] w : foretold) everywhere("foretold", -2, x -> x.foretold(w[0], w[1], w[2]));
        int[][] fewest = {{-1, 0, 1, -1}, {8, 0, 1, -1}, {0, -1, 1, -1}, {0, 6, 1, -1}, {0, 0, 0, -1}, {0, 0, 4, -1},
            {0, 0, 1, -2}, {0, 0, 1, 1}, {0, 0, 2, 2}, {0, 0, 3, 3}, {MIN, 0, 1, 0}, {MAX, 0, 1, 0}, {0, MIN, 1, 0},
            {0, MAX, 1, 0}, {0, 0, MIN, 0}, {0, 0, MAX, 0}, {0, 0, 1, MIN}, {0, 0, 1, MAX}};
        for (int[] w : fewest) everywhere("fewest", -1, x -> x.fewest(w[0], w[1], w[2], w[3]));
        int[][] since = {{-1, 0, 0}, {8, 0, 0}, {0, -1, 0}, {0, 100, 0}, {0, 0, -1}, {0, 0, 100}, {MIN, 0, 0}, {MAX, 0, 0},
            {0, MIN, 0}, {0, MAX, 0}, {0, 0, MIN}, {0, 0, MAX}, {0, 100, 100}, {0, -1, -1}};
        for (int[] w : since) {
            everywhere("since", -1, x -> x.since(w[0], w[1], w[2], false));
            everywhere("since", -1, x -> x.since(w[0], w[1], w[2], true));
        }
        int[][] bargain = {{-1, 1, 0}, {10000, 1, 0}, {1, 0, 0}, {1, 21, 0}, {1, 1, -1}, {1, 1, 10000}, {MIN, 1, 0},
            {MAX, 1, 0}, {1, MIN, 0}, {1, MAX, 0}, {1, 1, MIN}, {1, 1, MAX}};
        for (int[] w : bargain) {
            everywhere("bargain", -1, x -> x.bargain(w[0], w[1], w[2], false));
            everywhere("bargain", -1, x -> x.bargain(w[0], w[1], w[2], true));
        }
        int[][] seen = {{-2, 1}, {100, 1}, {0, 0}, {0, 10}, {MIN, 1}, {MAX, 1}, {0, -1}, {0, MIN}, {0, MAX}};
        for (int[] w : seen) {
            everywhere("seen", -2, x -> x.seen(w[0], w[1], true));
            everywhere("seen", -2, x -> x.seen(w[0], w[1], false));
        }
        int[][] odds = {{0, 1}, {64, 1}, {-1, 1}, {1, -1}, {1, 4}, {MIN, 1}, {MAX, 1}, {1, MIN}, {1, MAX}};
        for (int[] w : odds) {
            everywhere("odds", -1, x -> x.odds(w[0], w[1], false));
            everywhere("odds", -1, x -> x.odds(w[0], w[1], true));
        }
    }

    private static void full() {
        refused("full", "a seventh owner", -1, x -> x.owner(5));
        refused("full", "a ninth thing", -1, x -> x.thing(1, 0, 1));
        refused("full", "a ninth plan", -2, x -> x.plan(0, 0));
        refused("full", "a tenth vote", -2, x -> x.vote(5));
        refused("full", "a tenth one seen", -2, x -> x.seen(5, 5, true));
        refused("full", "bytes beyond 300", -1, x -> x.feed(1, 2, 3, 4, 5));
        refused("full", "a fifth text: the tape stays", -1, ThanksByPost::text);
        // One of each fewer, and it can be.
        ThanksByPost x = Cities.full();
        x.end(280);
        Checks.due("just 300", 300, x.feed(0, 0, 0, 0, 0));
    }

    private static void empty() {
        refused("new", "nothing to take back", -1, ThanksByPost::undo);
        refused("owners alone", "nothing to take back", -1, ThanksByPost::undo);
        refused("new", "decades without things", -1, x -> x.decades(0, 1));
        refused("owners alone", "decades without things", -1, x -> x.decades(9999, 30));
        refused("new", "a thing without owners", -1, x -> x.thing(1, 0, 1));
        refused("owners alone", "a thing of an owner not told", -1, x -> x.thing(1, 2, 1));
        refused("new", "no such text", 0, x -> yes(x.by(0)));
        refused("new", "no such text", -2, x -> x.played(0));
        refused("new", "no such vote", -1, x -> x.lying(0, true));
        refused("new", "no votes", -1, x -> x.voted(false));
        refused("new", "no votes", -1, x -> x.voted(true));
        refused("new", "no text was read", -1, x -> x.fault(0));
        refused("new", "no text was read", -1, x -> x.fault(1));
        refused("new", "an empty tape", -1, x -> x.end(1));
        refused("new", "an empty book", -2, x -> x.book(0, 0));
        refused("new", "no owners", -1, x -> x.odds(1, 1, false));
        refused("new", "nothing is kept", -1, ThanksByPost::early);
        refused("new", "nothing is planned", -1, ThanksByPost::first);
        for (String state : new String[] {"new", "owners alone"}) {
            refused(state, "steal(0)", -1, x -> x.steal(0));
            refused(state, "send(0)", -1, x -> x.send(0));
            refused(state, "give(0, 1)", 0, x -> yes(x.give(0, 1)));
            refused(state, "plan(0, 0)", -2, x -> x.plan(0, 0));
            refused(state, "of(0, 0)", -2, x -> x.of(0, 0));
            refused(state, "law(0, 0)", -100000, x -> x.law(0, 0));
            refused(state, "foretold(1, 0, 0)", -2, x -> x.foretold(1, 0, 0));
            refused(state, "fewest(0, 0, 1, -1)", -1, x -> x.fewest(0, 0, 1, -1));
            refused(state, "since(0, 0, 0, false)", -1, x -> x.since(0, 0, 0, false));
            refused(state, "whose(0)", -1, x -> x.whose(0));
        }
    }

    /** Refused by how things stand: the usual city has three things, the last of them kept. */
    private static void notSo() {
        refused("usual", "the ring is kept", -1, x -> x.steal(2));
        refused("usual", "the ring is kept", 0, x -> yes(x.give(2, 0)));
        refused("usual", "the clock isn't kept", -1, x -> x.send(0));
        refused("usual", "the clock isn't kept", -100000, x -> x.law(0, 1));
        refused("usual", "with that one", 0, x -> yes(x.give(0, 1)));
        refused("usual", "a fourth thing", -1, x -> x.steal(3));
        refused("usual", "a fourth owner", 0, x -> yes(x.give(0, 3)));
        refused("usual", "a thing of a fourth owner", -1, x -> x.thing(1, 3, 1));
        refused("usual", "odds of a fourth owner", -1, x -> x.odds(8, 1, false));
        refused("usual", "a third vote", -1, x -> x.lying(2, false));
        refused("usual", "text 1", 0, x -> yes(x.by(1)));
        refused("usual", "text 1", -2, x -> x.played(1));
        refused("usual", "one byte more than there are", -1, x -> x.end(14));
        refused("last day", "the ring is kept", -1, x -> x.steal(2));
        refused("full", "the last thing is kept", -1, x -> x.steal(7));
        refused("full", "the first isn't", -1, x -> x.send(0));
    }

    private static void lastDay() {
        refused("last day", "none can pass", -1, x -> x.day(1));
        refused("last day", "none can pass", -1, x -> x.day(60));
        Checks.at("refused, beyond the last day");
        MADE.put("9998", () -> Cities.late(9998));
        AS_MADE.put("9998", Everything.of(MADE.get("9998")));
        refused("9998", "one too many: not even the first passes", -1, x -> x.day(2));
        MADE.remove("9998");
    }

    /** Part III of the terms: all that follows changes nothing; and what tells of what is doesn't either. */
    private static void asking() {
        for (String state : MADE.keySet()) {
            Checks.at("asking, " + state);
            for (int i = -1; i <= 8; i++) {
                int k = i;
                unchanged(state, "foretold", x -> x.foretold(60, k, 0) + x.foretold(1, k, 1));
                unchanged(state, "pence", x -> x.pence(60, k) + x.pence(9, k));
                unchanged(state, "fewest", x -> x.fewest(k, 1, 2, -1) + x.fewest(0, k, 1, 0));
                unchanged(state, "since", x -> x.since(k, 5, 99, true) + x.since(k, 40, 41, false));
                unchanged(state, "whose", x -> x.whose(k) + x.of(k, 3) + x.law(k, 3) + x.book(k, 1));
                unchanged(state, "lying", x -> x.lying(k, false) + x.lying(k, true));
                unchanged(state, "odds", x -> x.odds(k, 3, false) + x.odds(1 << Math.max(0, k), 2, true));
                unchanged(state, "ofOwner", x -> x.ofOwner(k, 2) + x.about(k) + x.fault(k));
            }
            unchanged(state, "fewest over three days", x -> x.fewest(0, 1, 3, -1));
            unchanged(state, "first", ThanksByPost::first);
            unchanged(state, "worth", x -> x.worth(99) + x.worth(0));
            unchanged(state, "twice", ThanksByPost::twice);
            unchanged(state, "bargain", x -> x.bargain(9999, 20, 7, true));
            unchanged(state, "voted", x -> x.voted(false) + x.voted(true));
            unchanged(state, "rule", ThanksByPost::rule);
            unchanged(state, "early", ThanksByPost::early);
        }
    }

    /** That what does something is seen to: else all the others would pass for nothing. */
    private static void doing() {
        Checks.at("doing");
        Map<String, Deed> deeds = new LinkedHashMap<>();
        deeds.put("owner", x -> x.owner(10));
        deeds.put("thing", x -> x.thing(0, 0, 1));
        deeds.put("room", x -> yes(x.room(10)));
        deeds.put("steal", x -> x.steal(0));
        deeds.put("send", x -> x.send(2));
        deeds.put("give", x -> yes(x.give(0, 0)));
        deeds.put("day", x -> x.day(1));
        deeds.put("decades", x -> x.decades(9999, 1));
        deeds.put("feed", x -> x.feed(0x726f6f6d, 0x20353b20, 0x20202020, 0x20202020, 0x20202020));
        deeds.put("end", x -> x.end(12));
        deeds.put("end of a text", x -> x.end(7));
        deeds.put("text", ThanksByPost::text);
        deeds.put("by", x -> yes(x.by(-1)));
        deeds.put("undo", ThanksByPost::undo);
        deeds.put("plan", x -> x.plan(1, 3));
        deeds.put("no plan", x -> x.plan(-1, 0));
        deeds.put("vote", x -> x.vote(0));
        deeds.put("no vote", x -> x.vote(-1));
        deeds.put("seen", x -> x.seen(0, 1, false));
        deeds.put("none seen", x -> x.seen(-1, 1, false));
        deeds.put("image", ThanksByPost::image);
        deeds.put("back", ThanksByPost::back);
        for (Map.Entry<String, Deed> deed : deeds.entrySet()) {
            String got = Everything.of(() -> {
                ThanksByPost x = Cities.usual();
                deed.getValue().on(x);
                return x;
            });
            Checks.no(deed.getKey() + " changes nothing", got.equals(AS_MADE.get("usual")));
        }
    }
}
