/** Promises 1 to 9 and 16 to 20: owners, things, what is done by hand, steps, and what is. */
public final class CityTest {
    private static final int MIN = Integer.MIN_VALUE;
    private static final int MAX = Integer.MAX_VALUE;

    private static void due(String call, long want, long got) {
        Checks.due(call, want, got);
    }

    /** Two owners and three things: a clock, a piano, a ring. */
    private static ThanksByPost city() {
        ThanksByPost x = new ThanksByPost();
        x.owner(5);
        x.owner(9);
        x.thing(40, 0, 3);
        x.thing(70, 1, 7);
        x.thing(98, 1, 1);
        return x;
    }

    public static void main(String[] args) {
        promise1();
        promise2();
        promise3();
        promise4();
        promise5();
        promise6();
        promise7();
        promise8();
        promise9();
        promise16();
        promise16ToldSince();
        promise17();
        promise18();
        promise19();
        promise20();
        Checks.end();
    }

    private static void promise1() {
        Checks.at("promise 1");
        ThanksByPost x = new ThanksByPost();
        int[] about = {0, 0, 9, 0, 89, 0, -1, 0, 0, 0, 0, 0};
        for (int i = 0; i < about.length; i++) due("about(" + i + ")", about[i], x.about(i));
        due("undo", -1, x.undo());
        due("book", 0, x.book(-1, 0));
        x.owner(3);
        x.room(5);
        due("back", 0, x.back());
        due("owners are gone", 0, x.about(0));
        due("room is as at first", 9, x.about(2));
    }

    private static void promise2() {
        Checks.at("promise 2");
        ThanksByPost x = new ThanksByPost();
        due("owner(-1)", -1, x.owner(-1));
        due("owner(11)", -1, x.owner(11));
        due("owner(MIN)", -1, x.owner(MIN));
        due("owner(MAX)", -1, x.owner(MAX));
        for (int i = 0; i < 6; i++) due("owner " + i, i, x.owner(i * 2));
        due("a seventh", -1, x.owner(4));
        due("lives of the last", 10, x.ofOwner(5, 0));
        due("lives of the first", 0, x.ofOwner(0, 0));
        due("pence at first", 0, x.ofOwner(5, 1));
    }

    private static void promise3() {
        Checks.at("promise 3");
        ThanksByPost x = new ThanksByPost();
        due("no owner", -1, x.thing(1, 0, 1));
        x.owner(1);
        int[][] wrong = {{-1, 0, 1}, {100, 0, 1}, {1, -1, 1}, {1, 1, 1}, {1, 0, 0}, {1, 0, 10}, {MIN, 0, 1}, {1, MAX, 1}, {1, 0, MIN}};
        for (int[] w : wrong) due("wrong", -1, x.thing(w[0], w[1], w[2]));
        due("least", 0, x.thing(0, 0, 1));
        due("most", 1, x.thing(99, 0, 9));
        for (int i = 2; i < 8; i++) due("thing", i, x.thing(i, 0, 2));
        due("a ninth", -1, x.thing(1, 0, 1));
        due("with its first owner", 0, x.of(1, 3));
        due("it is no step", 0, x.about(7));
    }

    private static void promise4() {
        Checks.at("promise 4");
        ThanksByPost x = city();
        Checks.no("room(-1)", x.room(-1));
        Checks.no("room(100)", x.room(100));
        Checks.no("room(MAX)", x.room(MAX));
        due("still", 9, x.about(2));
        Checks.yes("room(99)", x.room(99));
        due("99", 99, x.about(2));
        due("steal", 7, x.steal(1));
        Checks.yes("room(0)", x.room(0));
        due("what is kept stays so", -1, x.of(1, 3));
        due("nothing more", -1, x.steal(2));
        due("it is no step", 0, x.undo());
        due("room is not taken back", 0, x.about(2));
    }

    private static void promise5() {
        Checks.at("promise 5");
        ThanksByPost x = city();
        due("steal(-1)", -1, x.steal(-1));
        due("steal(3)", -1, x.steal(3));
        due("steal(MIN)", -1, x.steal(MIN));
        due("no step", 0, x.about(7));
        x.day(4);
        due("the clock", 3, x.steal(0));
        due("again", -1, x.steal(0));
        due("no room for the piano", -1, x.steal(1));
        due("the ring", 4, x.steal(2));
        x.room(11);
        due("just room", 11, x.steal(1));
        due("since", 4, x.of(0, 4));
        due("from", 1, x.of(2, 5));
        due("steps", 7, x.about(7));
    }

    private static void promise6() {
        Checks.at("promise 6");
        ThanksByPost x = city();
        due("without owners", -1, new ThanksByPost().send(0));
        due("not kept", -1, x.send(0));
        due("send(3)", -1, x.send(3));
        due("send(-1)", -1, x.send(-1));
        x.give(2, 0);
        x.steal(2);
        due("to whom it was stolen from", 0, x.send(2));
        due("pence", 98, x.ofOwner(0, 1));
        due("others' pence", 0, x.ofOwner(1, 1));
        due("with", 0, x.of(2, 3));
        Checks.rule(x, "to owner;brings 0-5;");
        x.steal(2);
        due("to its first owner", 1, x.send(2));
        due("less pence", -5, x.ofOwner(1, 1));
        due("steps", 5, x.about(7));
        due("written", 2, x.book(-1, 0));
        pastBounds();
    }

    private static void pastBounds() {
        ThanksByPost x = city();
        Checks.rule(x, "to 0-4;brings 9999*9999;");
        due("law to", 0, x.steal(2) == 1 ? x.law(2, 2) : -9);
        due("law brings", 9999, x.law(2, 3));
        for (int i = 0; i < 101; i++) {
            x.send(2);
            x.steal(2);
        }
        due("no more than a million", 1000000, x.ofOwner(0, 1));
        Checks.rule(x, "to 99;brings 0-9999*2;");
        due("the highest owner", 1, x.send(2));
        for (int i = 0; i < 101; i++) {
            x.steal(2);
            x.send(2);
        }
        due("no less than a million less", -1000000, x.ofOwner(1, 1));
        due("thirty steps", 30, x.about(7));
    }

    private static void promise7() {
        Checks.at("promise 7");
        ThanksByPost x = city();
        Checks.no("give(-1, 0)", x.give(-1, 0));
        Checks.no("give(3, 0)", x.give(3, 0));
        Checks.no("give(0, -1)", x.give(0, -1));
        Checks.no("give(0, 2)", x.give(0, 2));
        Checks.no("with that one", x.give(0, 0));
        Checks.yes("give(0, 1)", x.give(0, 1));
        due("with", 1, x.of(0, 3));
        due("its first owner stays", 0, x.of(0, 2));
        x.steal(0);
        Checks.no("kept", x.give(0, 0));
        due("steps", 2, x.about(7));
        due("pence", 0, x.ofOwner(1, 1));
    }

    private static void promise8() {
        Checks.at("promise 8");
        ThanksByPost x = city();
        due("day(0)", -1, x.day(0));
        due("day(61)", -1, x.day(61));
        due("day(-1)", -1, x.day(-1));
        due("day(MAX)", -1, x.day(MAX));
        x.room(20);
        x.steal(0);
        x.day(2);
        x.steal(1);
        x.steal(2);
        due("after nine days", 1, x.day(8));
        due("day", 10, x.about(3));
        due("as dear as it was kept", 49, x.of(0, 0));
        due("no dearer than 99", 99, x.of(2, 0));
        due("two at once", 2, x.day(1));
        due("pence", 79 + 99, x.ofOwner(1, 1));
        due("each day a step", 14, x.about(7));
        due("sixty", 0, x.day(60));
        lawsByDay();
        lastDay();
    }

    private static void lawsByDay() {
        ThanksByPost x = city();
        x.room(20);
        Checks.rule(x, "dears 0-day*30;after 3-bulk/7;brings dear+pence;");
        x.steal(0);
        x.steal(1);
        due("a day", 0, x.day(1));
        due("less dear", 10, x.of(0, 0));
        due("less dear, by the day as it is then", 40, x.of(1, 0));
        due("the piano", 1, x.day(1));
        due("no less than 0", 0, x.of(1, 0));
        due("the clock", 1, x.day(1));
        due("what it brings", 0, x.ofOwner(0, 1));
        x = city();
        x.room(20);
        Checks.rule(x, "dears 5;after 0;to 0;brings dear+pence;");
        x.steal(2);
        x.steal(1);
        due("none before a day", 2, x.about(7));
        due("two", 2, x.day(1));
        due("by numbers, pence as they are then", 75 + 99 + 75, x.ofOwner(0, 1));
        due("the piano is written first", 1, x.book(0, 1));
    }

    private static void lastDay() {
        ThanksByPost x = city();
        for (int i = 0; i < 166; i++) x.day(60);
        due("day", 9960, x.about(3));
        due("beyond", -1, x.day(40));
        due("nothing is done", 9960, x.about(3));
        due("up to the last", 0, x.day(39));
        due("none can pass", -1, x.day(1));
        due("day", 9999, x.about(3));
    }

    private static void promise9() {
        Checks.at("promise 9");
        ThanksByPost none = new ThanksByPost();
        none.owner(1);
        due("without things", -1, none.decades(1, 1));
        due("x stays", 89, none.about(4));
        ThanksByPost x = city();
        due("decades(-1, 1)", -1, x.decades(-1, 1));
        due("decades(10000, 1)", -1, x.decades(10000, 1));
        due("decades(1, 0)", -1, x.decades(1, 0));
        due("decades(1, 31)", -1, x.decades(1, 31));
        due("no step", 0, x.about(7));
        // X: 89 (mod 5: 4, a day), 26274 (a thing), and 27772 stands behind them.
        due("a day", 1, x.decades(0, 1));
        due("x", 27772, x.about(4));
        due("one step", 1, x.about(7));
        // 6885 (by 5: 0), 16448 (by 3: 2): the ring is stolen; 29059 (4), 25164: a day.
        due("a theft, a day", 2, x.decades(3398, 2));
        due("x", 5732, x.about(4));
        due("the ring is stolen", -1, x.of(2, 3));
        due("on the day ahead", 1, x.of(2, 4));
        due("and dearer by a day", 99, x.of(2, 0));
        due("two steps", 2, x.about(7));
        due("undo", 1, x.undo());
        due("x is as ahead", 27772, x.about(4));
        due("day is as ahead", 1, x.about(3));
        due("the ring is with its owner", 1, x.of(2, 3));
        x.undo();
        due("x is as at first", 89, x.about(4));
        due("the most", x.about(3), x.decades(9999, 30) > 0 ? x.undo() : -5);
        sendsAndGifts();
    }

    private static void sendsAndGifts() {
        ThanksByPost x = city();
        x.room(0);
        due("no room", 0, x.decades(3398, 1));
        due("x", 29059, x.about(4));
        due("not stolen", 1, x.of(2, 3));
        due("a step all the same", 1, x.about(7));
        x.undo();
        x.room(9);
        // And behind those two: 5732 (2), 12128 (2): the ring is sent; 6378 (3), 19492 (1), 11381 (1): the piano
        // can't be given to the one with whom it is.
        due("a theft, a day, a sending, a gift that can't be", 1, x.decades(3398, 4));
        due("x", 30059, x.about(4));
        due("the ring is back", 1, x.of(2, 3));
        due("pence", 99, x.ofOwner(1, 1));
        due("written", 1, x.book(-1, 0));
        due("all of it is one step", 0, x.undo());
        due("pence as ahead", 0, x.ofOwner(1, 1));
        drawnAsItStands();
        drawnOnce();
        drawnLast();
    }

    /** X is drawn as it stands and steps behind the draw: by 5 of the SEED's own X at first. */
    private static void drawnAsItStands() {
        ThanksByPost x = new ThanksByPost();
        x.owner(0);
        x.owner(0);
        x.thing(0, 0, 1);
        // 101 (by 5: 1), 29790: the thing is stolen; 27114 (4), 1021: a day.
        due("a theft", 0, x.decades(6, 1));
        due("stolen", -1, x.of(0, 3));
        due("x", 27114, x.about(4));
        x.undo();
        due("a theft, a day", 1, x.decades(6, 2));
        due("x behind two", 26479, x.about(4));
        due("stolen on the day ahead", 0, x.of(0, 4));
    }

    /** On the last day no day can pass by a draw either. */
    private static void drawnLast() {
        ThanksByPost x = city();
        for (int i = 0; i < 166; i++) x.day(60);
        x.day(39);
        due("the last day", 9999, x.decades(0, 1));
        due("x all the same", 27772, x.about(4));
    }

    private static void drawnOnce() {
        for (int seed = 0; seed < 60; seed++) {
            int what = seed * 2 + 89;
            int thing = next(what);
            int owner = next(thing);
            int x = next(what % 5 == 3 ? owner : thing);
            int with = thing % 3 == 0 ? 0 : 1;
            int[] free = {-1, -1, with, owner % 2, with};
            int[] kept = {-1, -1, with, -1, -1};
            drawnOnce(seed, thing % 3, false, free[what % 5], x, what % 5 == 4 ? 1 : 0);
            drawnOnce(seed, thing % 3, true, kept[what % 5], x, what % 5 == 4 ? 1 : 0);
        }
    }

    private static int next(int x) {
        return (x * 293 + 197) % 30319;
    }

    private static void drawnOnce(int seed, int thing, boolean kept, int with, int x, int day) {
        ThanksByPost y = city();
        if (kept) y.steal(thing);
        due("day by seed " + seed, day, y.decades(seed, 1));
        due("with whom by seed " + seed, with, y.of(thing, 3));
        due("x by seed " + seed, x, y.about(4));
        due("a step by seed " + seed, kept ? 2 : 1, y.about(7));
    }

    private static void promise16() {
        Checks.at("promise 16");
        ThanksByPost x = city();
        due("none", -1, x.undo());
        x.steal(0);
        x.day(9);
        x.give(0, 1);
        due("steps", 11, x.about(7));
        due("the gift", 10, x.undo());
        due("with", 0, x.of(0, 3));
        due("pence", 49, x.ofOwner(0, 1));
        due("written", 1, x.book(-1, 0));
        due("the ninth day", 9, x.undo());
        due("day", 8, x.about(3));
        due("kept", -1, x.of(0, 3));
        due("since", 0, x.of(0, 4));
        due("from", 0, x.of(0, 5));
        due("dear", 48, x.of(0, 0));
        due("pence", 0, x.ofOwner(0, 1));
        due("written", 0, x.book(-1, 0));
        for (int i = 8; i > 0; i--) due("undo", i, x.undo());
        due("the theft", 0, x.undo());
        due("dear", 40, x.of(0, 0));
        due("with", 0, x.of(0, 3));
        due("none", -1, x.undo());
        x.day(31);
        due("thirty", 30, x.about(7));
        for (int i = 29; i >= 0; i--) due("undo", i, x.undo());
        due("none", -1, x.undo());
        due("the eldest stays", 1, x.about(3));
        bookTakenBack();
        whatIsKeptTakenBack();
    }

    private static void whatIsKeptTakenBack() {
        ThanksByPost x = city();
        x.room(99);
        x.day(4);
        x.give(0, 1);
        x.steal(0);
        x.day(1);
        x.steal(2);
        x.day(1);
        x.send(0);
        x.give(0, 0);
        x.steal(0);
        due("since", 6, x.of(0, 4));
        due("from", 0, x.of(0, 5));
        x.undo();
        x.undo();
        x.undo();
        due("since as ahead", 4, x.of(0, 4));
        due("from as ahead", 1, x.of(0, 5));
        due("since of the other", 5, x.of(2, 4));
        due("dear of the other", 99, x.of(2, 0));
        x.send(2);
        x.send(0);
        x.undo();
        due("pence of the one", 99, x.ofOwner(1, 1));
        due("pence of the other", 0, x.ofOwner(0, 1));
        x = city();
        for (int i = 0; i < 4; i++) x.owner(i);
        x.give(2, 5);
        x.steal(2);
        x.send(2);
        x.day(1);
        x.undo();
        due("pence of the last owner", 98, x.ofOwner(5, 1));
        x.undo();
        due("pence of the last owner", 0, x.ofOwner(5, 1));
    }

    private static void bookTakenBack() {
        ThanksByPost x = city();
        for (int i = 0; i < 31; i++) {
            x.day(1);
            x.steal(i % 3);
            x.send(i % 3);
        }
        due("thirty", 30, x.book(-1, 0));
        due("the eldest", 2, x.book(0, 0));
        x.undo();
        due("thirty", 30, x.book(-1, 0));
        due("the eldest is there again", 1, x.book(0, 0));
        due("the latest", 30, x.book(29, 0));
    }

    private static void promise16ToldSince() {
        Checks.at("promise 16, told since");
        ThanksByPost x = city();
        x.steal(0);
        due("owner", 2, x.owner(4));
        due("thing", 3, x.thing(30, 2, 4));
        due("steal", 7, x.steal(3));
        x.day(9);
        due("pence", 39, x.ofOwner(2, 1));
        x.give(3, 0);
        for (int i = 0; i < 11; i++) x.undo();
        due("one step is left", 1, x.about(7));
        due("the thing is with its owner", 2, x.of(3, 3));
        x.steal(3);
        x.day(1);
        x.send(3);
        for (int i = 0; i < 4; i++) x.undo();
        due("no step is left", 0, x.about(7));
        due("owners stay told", 3, x.about(0));
        due("things stay told", 4, x.about(1));
        due("as dear as told", 30, x.of(3, 0));
        due("with its first owner", 2, x.of(3, 3));
        due("no pence", 0, x.ofOwner(2, 1));
        due("lives", 4, x.ofOwner(2, 0));
    }

    private static void promise17() {
        Checks.at("promise 17");
        ThanksByPost x = city();
        due("lives", 9, x.ofOwner(1, 0));
        due("things", 6, x.ofOwner(1, 2));
        x.give(0, 1);
        due("things", 7, x.ofOwner(1, 2));
        x.steal(1);
        due("what is kept is with none", 5, x.ofOwner(1, 2));
        x.send(1);
        due("pence", 70, x.ofOwner(1, 1));
        due("things of the other", 0, x.ofOwner(0, 2));
        int[][] wrong = {{-1, 0}, {2, 0}, {0, -1}, {0, 3}, {MIN, 0}, {0, MAX}};
        for (int[] w : wrong) due("wrong", -2000000, x.ofOwner(w[0], w[1]));
    }

    private static void promise18() {
        Checks.at("promise 18");
        ThanksByPost x = city();
        x.give(1, 0);
        x.day(5);
        int[] free = {70, 7, 1, 0, -1, -1};
        for (int i = 0; i < 6; i++) due("of(1, " + i + ")", free[i], x.of(1, i));
        x.steal(1);
        x.day(2);
        int[] kept = {72, 7, 1, -1, 5, 0};
        for (int i = 0; i < 6; i++) due("of(1, " + i + ")", kept[i], x.of(1, i));
        x.send(1);
        int[] back = {72, 7, 1, 0, -1, -1};
        for (int i = 0; i < 6; i++) due("of(1, " + i + ")", back[i], x.of(1, i));
        int[][] wrong = {{-1, 0}, {3, 0}, {0, -1}, {0, 6}, {MAX, 0}, {0, MIN}};
        for (int[] w : wrong) due("wrong", -2, x.of(w[0], w[1]));
    }

    private static void promise19() {
        Checks.at("promise 19");
        ThanksByPost x = city();
        due("not kept", -100000, x.law(0, 0));
        x.give(0, 1);
        x.steal(0);
        int[] without = {1, 9, 1, 40};
        for (int i = 0; i < 4; i++) due("law(0, " + i + ")", without[i], x.law(0, i));
        int[][] wrong = {{-1, 0}, {3, 0}, {0, -1}, {0, 4}, {0, MAX}};
        for (int[] w : wrong) due("wrong", -100000, x.law(w[0], w[1]));
        x.day(3);
        Checks.rule(x, "dears day*100+kept*10+bulk;after 0-1;to thing+owner+1;brings from*1000+dear*10-kept;");
        int[] with = {99, 0, 1, 1427};
        for (int i = 0; i < 4; i++) due("law(0, " + i + ")", with[i], x.law(0, i));
        Checks.rule(x, "dears 0-9999;after 9999*2;to 0-1;brings pence+1-9999*3;");
        int[] beyond = {-99, 9999, 0, -9999};
        for (int i = 0; i < 4; i++) due("law(0, " + i + ")", beyond[i], x.law(0, i));
        Checks.rule(x, "brings 9999*2;");
        int[] some = {1, 9, 1, 9999};
        for (int i = 0; i < 4; i++) due("law(0, " + i + ")", some[i], x.law(0, i));
        x.by(-1);
        due("without again", 43, x.law(0, 3));
        pence();
    }

    private static void pence() {
        ThanksByPost x = city();
        x.steal(0);
        x.send(0);
        x.steal(2);
        Checks.rule(x, "to 0;brings pence*2+1;");
        due("pence of the one to whom it comes", 81, x.law(2, 3));
        x.send(2);
        due("pence", 40 + 81, x.ofOwner(0, 1));
    }

    private static void promise20() {
        Checks.at("promise 20");
        ThanksByPost x = city();
        due("none", 0, x.book(-1, 0));
        due("none such", -2, x.book(0, 0));
        x.day(6);
        x.steal(2);
        Checks.rule(x, "to 0;");
        x.day(1);
        x.send(2);
        x.steal(0);
        x.send(0);
        due("two", 2, x.book(-1, 3));
        int[] eldest = {7, 2, 0, 99};
        int[] latest = {7, 0, 0, 40};
        for (int i = 0; i < 4; i++) {
            due("book(0, " + i + ")", eldest[i], x.book(0, i));
            due("book(1, " + i + ")", latest[i], x.book(1, i));
        }
        int[][] wrong = {{-2, 0}, {2, 0}, {0, -1}, {0, 4}, {MAX, 0}, {MIN, 0}, {0, MIN}};
        for (int[] w : wrong) due("wrong", -2, x.book(w[0], w[1]));
        for (int i = 0; i < 40; i++) {
            x.steal(i % 3);
            x.send(i % 3);
        }
        due("the latest thirty", 30, x.book(-1, 0));
        due("the eldest of them", 10 % 3, x.book(0, 1));
        due("the latest", 39 % 3, x.book(29, 1));
        for (int i = 0; i < 30; i++) due("card " + i, (10 + i) % 3, x.book(i, 1));
        due("no more", -2, x.book(30, 1));
    }
}
