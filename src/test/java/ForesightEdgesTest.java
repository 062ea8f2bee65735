/** Part III of the terms, what is to come, and THE IMAGE: sentence by sentence, at the bounds. */
public final class ForesightEdgesTest {
    private static void due(String call, long want, long got) {
        Checks.due(call, want, got);
    }

    private static ThanksByPost city(int owners, int things, int dear, int bulk) {
        ThanksByPost x = new ThanksByPost();
        for (int i = 0; i < owners; i++) x.owner(5);
        for (int i = 0; i < things; i++) x.thing(dear, 0, bulk);
        return x;
    }

    public static void main(String[] args) {
        foretoldDays();
        foretoldLast();
        foretoldPence();
        planned();
        firstOfNone();
        firstByDays();
        firstByNumbers();
        firstOnTheLastDays();
        firstAsForetold();
        fewestOfDays();
        fewestOfLikeOnes();
        fewestWhatCanNotBe();
        fewestOnTheLastDay();
        sinceBounds();
        sinceAsItIs();
        sinceDaysGoOn();
        earlyOfNone();
        earlyYears();
        earlyOfLikeOnes();
        imageOfNew();
        imageOfAll();
        imageTexts();
        about();
        Checks.end();
    }

    // ---- foretold

    private static void foretoldDays() {
        Checks.at("FORETOLD behind n DAYS (1 .. 60; those that can pass do), nothing being done");
        ThanksByPost x = city(2, 2, 10, 1);
        Checks.rule(x, "after 60;to 1;brings 5;");
        x.steal(0);
        for (int n : new int[] {-1, 0, 61}) {
            due("foretold(" + n + ")", -2, x.foretold(n, 0, 0));
            due("foretold(" + n + ")", -2, x.foretold(n, 0, 1));
            due("pence(" + n + ")", -2000000, x.pence(n, 1));
        }
        due("one day", 11, x.foretold(1, 0, 0));
        due("kept", -1, x.foretold(1, 0, 1));
        due("kept for fifty-nine", 69, x.foretold(59, 0, 0));
        due("kept for fifty-nine", -1, x.foretold(59, 0, 1));
        due("no pence yet", 0, x.pence(59, 1));
        due("sixty", 70, x.foretold(60, 0, 0));
        due("back behind sixty", 1, x.foretold(60, 0, 1));
        due("pence", 5, x.pence(60, 1));
        due("none of the other's", 0, x.pence(60, 0));
        due("what isn't kept stays", 10, x.foretold(60, 1, 0));
        due("what isn't kept stays", 0, x.foretold(60, 1, 1));
        for (int thing : new int[] {-1, 2}) due("no such thing", -2, x.foretold(1, thing, 0));
        for (int what : new int[] {-1, 2}) due("no such what", -2, x.foretold(1, 0, what));
        for (int owner : new int[] {-1, 2}) due("no such owner", -2000000, x.pence(1, owner));
        due("nothing has passed", 0, x.about(3));
        due("nothing is dearer", 10, x.of(0, 0));
    }

    private static void foretoldLast() {
        Checks.at("FORETOLD (those that can pass do), at DAY 9999 none can");
        for (int left = 0; left <= 2; left++) {
            ThanksByPost x = city(1, 1, 10, 1);
            Cities.passTo(x, 9999 - left);
            Checks.rule(x, "after 2;brings 4;");
            x.steal(0);
            for (int n : new int[] {1, 2, 60}) {
                int pass = Math.min(n, left);
                due(left + " left, dear behind " + n, 10 + pass, x.foretold(n, 0, 0));
                due(left + " left, with behind " + n, pass == 2 ? 0 : -1, x.foretold(n, 0, 1));
                due(left + " left, pence behind " + n, pass == 2 ? 4 : 0, x.pence(n, 0));
            }
        }
    }

    private static void foretoldPence() {
        Checks.at("FORETOLD: PENCE of an OWNER, each return as all is then");
        ThanksByPost x = city(2, 8, 10, 1);
        x.room(8);
        Checks.rule(x, "after 1;to 1;brings if pence<7*9999 then 9999 else 9998 end;");
        for (int i = 0; i < 8; i++) x.steal(i);
        due("each as all is then", 7 * 9999 + 9998, x.pence(1, 1));
        due("none of the other's", 0, x.pence(60, 0));
        due("nothing has come", 0, x.ofOwner(1, 1));
    }

    // ---- planned

    private static void planned() {
        Checks.at("PLANNED (8 at most; told): a THING, so many DAYS from now (0 .. 60)");
        ThanksByPost x = new ThanksByPost();
        due("no such thing", -2, x.plan(0, 0));
        due("none of none", 0, x.plan(-1, 0));
        x = city(1, 8, 10, 1);
        for (int i = 0; i < 8; i++) {
            due("days below", -2, x.plan(i, -1));
            due("days above", -2, x.plan(i, 61));
            due("no thing 8", -2, x.plan(8, 0));
            due("no thing -2", -2, x.plan(-2, 0));
            due("planned", i, x.about(8));
            due("plan", i + 1, x.plan(i, i % 2 * 60));
        }
        due("a ninth", -2, x.plan(0, 0));
        due("planned", 8, x.about(8));
        due("none any more", 0, x.plan(-1, 61));
        due("planned", 0, x.about(8));
        due("the first again", 1, x.plan(7, 60));
        due("all that is planned is only planned", 0, x.of(7, 3));
        due("nothing is a step", 0, x.about(7));
        onlyPlanned();
    }

    /** What is planned is done by FIRST alone, not by what is foretold, searched or passed. */
    private static void onlyPlanned() {
        Checks.at("FORETOLD: nothing being done; PLANNED is told alone");
        ThanksByPost x = city(2, 2, 10, 9);
        x.plan(0, 0);
        x.plan(1, 0);
        x.plan(0, 1);
        due("the second has no room", 1, x.first());
        due("with whom, behind a day", 0, x.foretold(1, 0, 1));
        due("no dearer", 10, x.foretold(60, 0, 0));
        due("no pence", 0, x.pence(60, 0));
        due("it needn't be fetched", 0, x.fewest(0, 0, 2, -1));
        due("days pass", 0, x.day(20));
        due("with whom it was", 0, x.of(0, 3));
        due("stolen by hand", 9, x.steal(0));
        due("planned as it was, on the days from now", 0, x.first());
        due("foretold without it", 11, x.foretold(1, 0, 0));
    }

    private static void firstOfNone() {
        Checks.at("The FIRST THAT CAN'T BE: none");
        due("nothing is planned", -1, new ThanksByPost().first());
        ThanksByPost x = city(1, 2, 10, 5);
        due("nothing is planned", -1, x.first());
        x.steal(0);
        due("nothing is planned, though nothing can be", -1, x.first());
        x.plan(0, 0);
        due("the one", 0, x.first());
        x.plan(-1, 0);
        due("none any more", -1, x.first());
        x.undo();
        x.plan(0, 0);
        due("it can be", -1, x.first());
        x.plan(1, 0);
        due("no room for both", 1, x.first());
        x.room(10);
        due("room for both", -1, x.first());
    }

    private static void firstByDays() {
        Checks.at("DAYS pass one by one as foretold; on each (this one first) those PLANNED for it");
        ThanksByPost x = city(1, 3, 10, 5);
        x.room(5);
        x.plan(2, 60);
        x.plan(1, 1);
        x.plan(0, 0);
        due("this day's is stolen first, and there is no room tomorrow", 1, x.first());
        x = city(1, 3, 10, 5);
        x.room(5);
        x.plan(2, 60);
        x.plan(1, 51);
        x.plan(0, 0);
        due("nine days each: the one is back on the next's day", -1, x.first());
        x.plan(-1, 0);
        x.plan(2, 60);
        x.plan(1, 52);
        due("eight days: not back", 0, x.first());
        for (int days = 0; days <= 60; days += 15) {
            x = city(1, 1, 10, 5);
            x.plan(0, days);
            due("it can be", -1, x.first());
            x.plan(0, days);
            due("not twice on day " + days, 1, x.first());
        }
        x = city(1, 2, 10, 5);
        Checks.rule(x, "after 60;");
        x.plan(0, 0);
        x.plan(0, 59);
        due("kept on the fifty-ninth", 1, x.first());
        x.plan(-1, 0);
        x.plan(0, 0);
        x.plan(0, 60);
        due("back on the sixtieth", -1, x.first());
    }

    private static void firstByNumbers() {
        Checks.at("those PLANNED for it, by their numbers, are STOLEN: the first that can't");
        ThanksByPost x = city(1, 8, 10, 2);
        x.room(6);
        int[] order = {7, 3, 5, 1};
        for (int thing : order) x.plan(thing, 2);
        due("room for three: the fourth as they were told", 3, x.first());
        x.room(5);
        due("room for two", 2, x.first());
        x.room(1);
        due("room for none", 0, x.first());
        x.room(8);
        due("room for all", -1, x.first());
        x.plan(0, 1);
        due("a day ahead one more is stolen: it is the last of the four that can't", 3, x.first());
        x.room(0);
        due("the earlier day's first, whatever its number", 4, x.first());
    }

    private static void firstOnTheLastDays() {
        Checks.at("none (those for DAYS that can't pass as well)");
        for (int left = 0; left <= 3; left++) {
            ThanksByPost x = Cities.late(9999 - left);
            x.steal(2);
            for (int days = 0; days <= 60; days += days < 4 ? 1 : 14) {
                x.plan(-1, 0);
                x.plan(2, days);
                due(left + " left, kept on day " + days, days <= left ? 0 : -1, x.first());
                x.plan(0, 0);
                x.plan(1, days);
                due(left + " left, no room on day " + days, days <= left ? 0 : -1, x.first());
            }
            x.plan(-1, 0);
            x.plan(2, left + 1);
            x.plan(2, 60);
            due("none of them", -1, x.first());
            x.plan(2, left);
            due("the last day there is", 2, x.first());
        }
    }

    private static void firstAsForetold() {
        Checks.at("DAYS pass as foretold: what is stolen by plan comes back by the laws, to any owner");
        ThanksByPost x = city(2, 1, 10, 9);
        Checks.rule(x, "after if from=0 then 1 else 3 end;to 1;");
        x.plan(0, 0);
        x.plan(0, 1);
        x.plan(0, 3);
        due("from the other one it is kept for longer", 2, x.first());
        x.plan(-1, 0);
        x.plan(0, 0);
        x.plan(0, 1);
        x.plan(0, 4);
        due("just back", -1, x.first());
        Checks.rule(x, "after 0;");
        x.plan(-1, 0);
        for (int days = 0; days < 8; days++) x.plan(0, days);
        due("each day anew", -1, x.first());
        Checks.rule(x, "after 2;");
        due("every other day", 1, x.first());
    }

    // ---- fewest acts

    private static void fewestOfDays() {
        Checks.at("FEWEST ACTS over n DAYS (1 .. 3): how many, the i-th DAY's");
        ThanksByPost x = city(2, 8, 10, 1);
        Checks.rule(x, "to 1;");
        for (int n = 1; n <= 3; n++) {
            due("with that one already", 0, x.fewest(7, 0, n, -1));
            for (int i = 0; i < n; i++) due("nothing", 0, x.fewest(7, 0, n, i));
            due("no such day", -1, x.fewest(7, 0, n, n));
            due("no such day", -1, x.fewest(7, 0, n, -2));
            due("to the other", n == 1 ? -1 : 2, x.fewest(7, 1, n, -1));
        }
        for (int n : new int[] {-1, 0, 4}) {
            due("no such days", -1, x.fewest(7, 0, n, -1));
            due("no such days", -1, x.fewest(7, 0, n, 0));
        }
        due("no thing 8", -1, x.fewest(8, 0, 1, -1));
        due("no owner 2", -1, x.fewest(7, 2, 1, -1));
        due("none in one day: no act either", -1, x.fewest(7, 1, 1, 0));
        due("the last thing stolen", 8, x.fewest(7, 1, 2, 0));
        due("the last thing sent", 17, x.fewest(7, 1, 2, 1));
        due("nothing on the first of three", 0, x.fewest(7, 1, 3, 0));
        ThanksByPost y = city(6, 1, 10, 1);
        Checks.rule(y, "to 5;");
        due("to the last owner, though there is one thing alone", 2, y.fewest(0, 5, 2, -1));
        due("stolen", 1, y.fewest(0, 5, 2, 0));
        due("sent", 10, y.fewest(0, 5, 2, 1));
        due("no owner 6", -1, y.fewest(0, 6, 2, -1));
        due("the first thing stolen", 1, x.fewest(0, 1, 3, 1));
        due("the first thing sent", 10, x.fewest(0, 1, 3, 2));
    }

    private static void fewestOfLikeOnes() {
        Checks.at("of like ones by DAYS: nothing ahead of all, then STOLEN by THINGS, then SENT by THINGS");
        // On day 1 alone it comes to the other one: nothing first, as elsewhere, would be too late.
        ThanksByPost x = city(2, 4, 10, 1);
        Checks.rule(x, "dears 0;after if from=0 then 1 else 9 end;to if thing=3 and day=1 then 1 else 0 end;");
        due("stolen: back by itself", 1, x.fewest(3, 1, 1, -1));
        due("stolen", 4, x.fewest(3, 1, 1, 0));
        due("only on the first day", 4, x.fewest(3, 1, 3, 0));
        // Either the room is made by the one or by the other: the lower is sent, as late as can be.
        x = city(2, 2, 10, 3);
        x.thing(60, 0, 3);
        Checks.rule(x, "after if dear>50 then 1 else 99 end;to 1;");
        x.steal(0);
        x.steal(1);
        x.room(6);
        due("sent and stolen", 2, x.fewest(2, 1, 3, -1));
        due("nothing first", 0, x.fewest(2, 1, 3, 0));
        due("then the lower is sent", 10, x.fewest(2, 1, 3, 1));
        due("then it is stolen", 3, x.fewest(2, 1, 3, 2));
        due("not the higher", 10, x.fewest(2, 1, 2, 0));
        nothingAheadOfAll();
    }

    private static void nothingAheadOfAll() {
        ThanksByPost x = city(2, 2, 10, 1);
        x.steal(0);
        Checks.rule(x, "after 1;to 0;");
        due("nothing to do", 0, x.fewest(0, 0, 1, -1));
        Checks.rule(x, "after 9;to 0;");
        due("sent on the first of one", 10, x.fewest(0, 0, 1, 0));
        due("nothing, then sent", 0, x.fewest(0, 0, 2, 0));
        due("nothing, then sent", 10, x.fewest(0, 0, 2, 1));
        // On day 2 all that is kept comes back, to 1.
        x = city(2, 2, 10, 1);
        x.steal(1);
        Checks.rule(x, "after if day=2 then 0 else 99 end;to 1;");
        due("day 2 brings it back by itself", 0, x.fewest(1, 1, 2, -1));
        due("on day 1 it must be sent", 11, x.fewest(1, 1, 1, 0));
        due("the other needs a theft, no sending", 1, x.fewest(0, 1, 2, -1));
        due("nothing on the first", 0, x.fewest(0, 1, 2, 0));
        due("stolen on the second, though it could be on the first", 1, x.fewest(0, 1, 2, 1));
    }

    private static void fewestWhatCanNotBe() {
        Checks.at("what can't be isn't done, but is an act; none");
        ThanksByPost x = city(2, 2, 10, 5);
        Checks.rule(x, "to 1;after 9;");
        x.room(4);
        due("no room: none", -1, x.fewest(0, 1, 3, -1));
        for (int i = 0; i < 3; i++) due("no room: none", -1, x.fewest(0, 1, 3, i));
        x.room(5);
        due("room", 2, x.fewest(0, 1, 3, -1));
        x.steal(1);
        due("no room until the other is sent", 3, x.fewest(0, 1, 3, -1));
        due("sent", 11, x.fewest(0, 1, 3, 0));
        due("stolen", 1, x.fewest(0, 1, 3, 1));
        due("sent", 10, x.fewest(0, 1, 3, 2));
        due("not in two days", -1, x.fewest(0, 1, 2, -1));
        due("to where it never comes", -1, x.fewest(1, 0, 3, -1));
        // However little room there is, all that is kept can be sent, whatever its number.
        x = city(2, 8, 10, 1);
        x.steal(7);
        x.room(0);
        due("the last thing sent", 1, x.fewest(7, 0, 1, -1));
        due("the last thing sent", 17, x.fewest(7, 0, 1, 0));
        x.room(1);
        x.send(7);
        Checks.rule(x, "after 1;to 1;");
        due("the last thing stolen", 8, x.fewest(7, 1, 1, 0));
    }

    private static void fewestOnTheLastDay() {
        Checks.at("FEWEST ACTS where DAYS can't pass: acts can be");
        ThanksByPost x = Cities.late(9999);
        x.steal(0);
        due("sent", 1, x.fewest(0, 0, 1, -1));
        due("sent", 10, x.fewest(0, 0, 1, 0));
        due("sent ahead of the last", 10, x.fewest(0, 0, 3, 2));
        due("it never comes back by itself", 1, x.fewest(0, 0, 3, -1));
        x = Cities.late(9996);
        Checks.rule(x, "after 3;");
        x.steal(0);
        due("on day 9999 it does", 0, x.fewest(0, 0, 3, -1));
        due("not in two days", 1, x.fewest(0, 0, 2, -1));
        x.day(1);
        due("in two it does", 0, x.fewest(0, 0, 3, -1));
    }

    // ---- since

    private static void sinceBounds() {
        Checks.at("SINCE: for how many days (0 .. 60), DEAR d0, d1 DEAR (0 .. 99 each): the fewest, the most; none");
        ThanksByPost x = city(1, 2, 50, 1);
        for (boolean most : new boolean[] {false, true}) {
            for (int d : new int[] {-1, 100}) {
                due("d0 " + d, -1, x.since(0, d, 50, most));
                due("d1 " + d, -1, x.since(0, 50, d, most));
            }
            // Just beyond, it would be within a day later.
            due("d0 100 to 99", -1, x.since(0, 100, 99, most));
            due("d0 -1 to 0", -1, x.since(0, -1, 0, most));
            due("d0 -1 to 5", -1, x.since(0, -1, 5, most));
            for (int thing : new int[] {-1, 2}) due("thing " + thing, -1, x.since(thing, 5, 5, most));
            due("no day", 0, x.since(0, 0, 0, most));
            due("sixty days", 60, x.since(0, 0, 60, most));
            due("sixty-one", -1, x.since(0, 0, 61, most));
            due("sixty days to the bound's neighbour", 60, x.since(0, 38, 98, most));
            due("less dear it doesn't become", -1, x.since(0, 50, 49, most));
        }
        due("the bound, first", 60, x.since(0, 39, 99, false));
        due("the bound, first", 59, x.since(0, 40, 99, false));
        due("the bound, last", 60, x.since(0, 40, 99, true));
        due("not at the bound", -1, x.since(0, 38, 99, true));
        due("at the bound all along, first", 0, x.since(0, 99, 99, false));
        due("at the bound all along, last", 60, x.since(0, 99, 99, true));
        Checks.rule(x, "dears 0-1;");
        due("to 0, first", 60, x.since(0, 60, 0, false));
        due("to 0, last", 60, x.since(0, 0, 0, true));
        due("not to 0", -1, x.since(0, 61, 0, false));
        Checks.rule(x, "dears 0;");
        due("as it is, first", 0, x.since(0, 7, 7, false));
        due("as it is, last", 60, x.since(0, 7, 7, true));
        due("nothing else", -1, x.since(0, 7, 8, true));
        Checks.rule(x, "dears if left kept of 2=0 then -99 else 99 end;");
        due("by turns, first", 1, x.since(0, 0, 99, false));
        due("by turns, last", 59, x.since(0, 0, 99, true));
        due("by turns, first", 0, x.since(0, 0, 0, false));
        due("by turns, last", 60, x.since(0, 0, 0, true));
        due("behind two days and for good", 60, x.since(0, 50, 0, true));
    }

    private static void sinceAsItIs() {
        Checks.at("SINCE: a THING, as it is now but DEAR d0 and KEPT 0 days");
        ThanksByPost x = city(3, 2, 50, 4);
        Checks.rule(x, "dears bulk+from*10+owner;");
        due("from whom it is with", 1, x.since(1, 0, 4, false));
        x.give(1, 2);
        due("from whom it is with now", 1, x.since(1, 0, 24, false));
        x.steal(1);
        x.day(1);
        due("from whom it was stolen", 1, x.since(1, 0, 24, false));
        x.send(1);
        x.give(1, 1);
        due("not from whom it was stolen once", 1, x.since(1, 0, 14, false));
        // Room is not asked for: nothing is stolen.
        x.room(0);
        due("without room", 1, x.since(1, 0, 14, false));
        Checks.rule(x, "dears if dear=50 then 7 else 0 end;");
        due("as dear as d0, not as it is", 0, x.since(0, 3, 3, false));
        due("not dearer, then", 60, x.since(0, 3, 3, true));
        Checks.rule(x, "dears 10;after 1;");
        due("nothing comes back", 5, x.since(0, 3, 53, false));
    }

    private static void sinceDaysGoOn() {
        Checks.at("SINCE: DAY going on from now, kept one more each day ahead of dears");
        ThanksByPost x = city(1, 1, 50, 1);
        x.day(7);
        Checks.rule(x, "dears if day=8 then 1 else 0 end;");
        due("the first is the day behind this one", 1, x.since(0, 5, 6, false));
        Checks.rule(x, "dears if day=7 then 1 else 0 end;");
        due("this one itself is none of them", -1, x.since(0, 5, 6, false));
        Checks.rule(x, "dears if day=67 then 1 else 0 end;");
        due("the sixtieth", 60, x.since(0, 5, 6, false));
        Checks.rule(x, "dears if day=68 then 1 else 0 end;");
        due("no sixty-first", -1, x.since(0, 5, 6, false));
        x.image();
        x = city(1, 1, 50, 1);
        Checks.rule(x, "dears if kept=1 then 1 else 0 end;");
        due("kept is 1 on the first", 1, x.since(0, 5, 6, false));
        Checks.rule(x, "dears if kept=0 then 1 else 0 end;");
        due("kept is never 0 then", -1, x.since(0, 5, 6, false));
        Checks.rule(x, "dears if kept=60 then 1 else 0 end;");
        due("kept is 60 on the last", 60, x.since(0, 5, 6, false));
        Checks.rule(x, "dears if kept>60 then 1 else 0 end;");
        due("and no more", -1, x.since(0, 5, 6, false));
        x = city(1, 1, 50, 1);
        Cities.passTo(x, 9999);
        due("from the last day on as well", 4, x.since(0, 5, 9, false));
    }

    // ---- early

    private static void earlyOfNone() {
        Checks.at("EARLY: of all KEPT THINGS; none");
        due("new", -1, new ThanksByPost().early());
        ThanksByPost x = city(1, 2, 50, 1);
        due("nothing is kept", -1, x.early());
        x.steal(1);
        due("the one", 1, x.early());
        x.send(1);
        due("nothing is kept any more", -1, x.early());
        x = new ThanksByPost();
        x.owner(10);
        x.thing(0, 0, 1);
        x.steal(0);
        due("of no weight, and yet the one", 0, x.early());
        x = city(1, 8, 50, 1);
        x.steal(7);
        x.room(0);
        due("the last one, whatever ROOM was told since", 7, x.early());
    }

    /** Two things of owners who live 9 and 5 of 10, so dear that just so many years make the one the weightier. */
    private static void years(int wait, int dear, int other, int want) {
        ThanksByPost x = new ThanksByPost();
        x.owner(9);
        x.owner(5);
        x.thing(dear, 0, 1);
        x.thing(other, 1, 1);
        x.steal(0);
        x.steal(1);
        Checks.rule(x, "after " + wait + ";");
        due(wait + " days, " + dear + " and " + other + " dear", want, x.early());
    }

    private static void earlyYears() {
        Checks.at("EARLY: a YEAR is 9 days (days to wait yet, at least 0, by 9, a rest counts whole; 6 at most)");
        // Of 10 ^ 6 they die: 9: 100000, 190000, 271000, 343900 ..; 5: 500000, 750000, 875000, 937500 ..
        years(0, 99, 99, 0);
        years(0, 0, 99, 0);
        years(1, 98, 20, 1);
        years(9, 98, 20, 1);
        years(10, 98, 20, 0);
        years(18, 78, 20, 1);
        years(18, 79, 20, 0);
        years(19, 78, 20, 0);
        years(27, 64, 20, 1);
        years(27, 65, 20, 0);
        years(28, 64, 20, 0);
        // 343900 to 937500, 409510 to 968750, 468559 to 984375.
        years(36, 54, 20, 1);
        years(36, 55, 20, 0);
        years(37, 54, 20, 0);
        years(45, 47, 20, 1);
        years(45, 48, 20, 0);
        years(46, 47, 20, 0);
        years(54, 42, 20, 1);
        years(54, 43, 20, 0);
        // 521703 to 992188: a seventh would turn 39 against 20.
        years(55, 42, 20, 1);
        years(63, 39, 20, 1);
        years(9999, 39, 20, 1);
        waitYet();
    }

    private static void waitYet() {
        Checks.at("EARLY: days to wait yet, at least 0 (after as now)");
        ThanksByPost x = new ThanksByPost();
        x.owner(9);
        x.owner(5);
        x.thing(90, 0, 1);
        x.thing(20, 1, 1);
        Checks.rule(x, "dears 0;after 19;");
        x.steal(0);
        x.steal(1);
        // 90: 9, 17.1, 24.39; 20: 10, 15, 17.5.
        due("nineteen days: three years", 0, x.early());
        x.day(1);
        due("eighteen: two", 0, x.early());
        x.day(8);
        due("ten: two", 0, x.early());
        x.day(1);
        due("nine: one", 1, x.early());
        x.day(8);
        due("one: one", 1, x.early());
        Checks.rule(x, "dears 0;after 18;");
        due("none: all live, the lowest", 0, x.early());
        Checks.rule(x, "dears 0;after 1;");
        due("less than none is none", 0, x.early());
    }

    private static void earlyOfLikeOnes() {
        Checks.at("EARLY: of like ones the lowest");
        ThanksByPost x = new ThanksByPost();
        for (int i = 0; i < 6; i++) x.owner(5);
        x.room(99);
        for (int i = 0; i < 8; i++) x.thing(i < 2 ? 98 : 99, i % 6, 1);
        for (int i = 7; i >= 0; i--) {
            x.steal(i);
            due("the lowest of the dearest", i < 2 ? 2 : i, x.early());
        }
        // 40 by 1 of 2 is 20, and 20 by 1 is 20: a LIVES of 0 dies for certain.
        x = new ThanksByPost();
        x.owner(0);
        x.owner(5);
        x.thing(20, 0, 1);
        x.thing(40, 1, 1);
        x.thing(41, 1, 1);
        x.steal(1);
        x.steal(0);
        due("20 and 20", 0, x.early());
        x.steal(2);
        due("20.5", 2, x.early());
    }

    // ---- the image

    private static void imageOfNew() {
        Checks.at("Nobody; THE IMAGE is this");
        ThanksByPost y = Cities.full();
        y.back();
        int[] about = {0, 0, 9, 0, 89, 0, -1, 0, 0, 0, 0};
        ThanksByPost x = Cities.two();
        x.day(5);
        x.steal(0);
        x.plan(0, 0);
        x.vote(5);
        x.seen(5, 5, true);
        x.decades(5, 5);
        x.room(50);
        Checks.rule(x, "dears 5;");
        due("back", 0, x.back());
        for (int i = 0; i < about.length; i++) {
            due("about(" + i + ")", about[i], x.about(i));
            due("about(" + i + ") of what was full", about[i], y.about(i));
        }
        due("no book", 0, y.book(-1, 0));
        due("no owner", -2000000, y.ofOwner(0, 0));
        due("no thing", -2, y.of(0, 0));
        due("no step", -1, y.undo());
        due("no votes", -1, y.voted(true));
        due("nothing seen", 1, y.rule());
        due("nothing planned", -1, y.first());
        due("as many again", 0, y.owner(4));
        due("pence at first", 0, y.ofOwner(0, 1));
        due("a thing", 0, y.thing(7, 0, 3));
        due("as dear as told", 7, y.of(0, 0));
        due("not kept", 0, y.of(0, 3));
    }

    private static void imageOfAll() {
        Checks.at("AN IMAGE: all as it is, STEPS as well, but the tape and the latest FAULT");
        for (int calls = 0; calls < 3; calls++) {
            int times = calls;
            String as = Everything.of(() -> {
                ThanksByPost x = Cities.full();
                x.image();
                return x;
            });
            String got = Everything.of(() -> {
                ThanksByPost x = Cities.full();
                x.image();
                for (int i = 0; i < 9; i++) x.undo();
                x.day(40);
                x.decades(77, 9);
                x.room(3);
                x.by(times);
                x.plan(-1, 0);
                x.vote(-1);
                x.seen(-1, 0, true);
                for (int i = 0; i < times; i++) x.vote(i);
                for (int i = 0; i <= times; i++) x.back();
                return x;
            });
            Checks.yes("as at the image, gone back to " + (calls + 1) + " times", got.equals(as));
        }
        ThanksByPost x = Cities.two();
        x.day(3);
        due("image: DAY", 3, x.image());
        due("no step", 3, x.about(7));
        x.day(5);
        due("back: DAY", 3, x.back());
        due("it stays", 3, x.back());
        x.day(7);
        due("it stays", 3, x.back());
        due("steps as at the image", 2, x.undo());
        due("another image", 2, x.image());
        due("that one", 2, x.back());
        due("its steps", 1, x.undo());
        Checks.put(x, "@@");
        x.back();
        due("the tape stays", 2, x.about(11));
        x.end(1);
        x.image();
        Checks.put(x, "");
        x.back();
        due("no tape is gone back to", 0, x.about(11));
        imageOfLists();
        x = Cities.late(9999);
        due("on the last day", 9999, x.image());
        x.steal(0);
        due("on the last day", 9999, x.back());
        due("as it was", 0, x.of(0, 3));
    }

    private static void imageOfLists() {
        ThanksByPost x = city(1, 8, 10, 5);
        x.plan(7, 0);
        x.plan(7, 9);
        for (int vote : new int[] {3, 50, 99}) x.vote(vote);
        x.seen(50, 5, true);
        x.seen(20, 5, false);
        x.image();
        for (int i = 0; i < 3; i++) {
            due("planned as then", -1, x.first());
            due("votes as then", 50, x.voted(false));
            due("seen as then", 2101, x.rule());
            for (int what = 8; what <= 10; what++) due("how many", what == 9 ? 3 : 2, x.about(what));
            x.plan(7, 8);
            due("it can't be on the eighth day", 2, x.first());
            x.vote(-1);
            x.vote(9);
            x.seen(60, 1, false);
            due("seen more", 2102, x.rule());
            x.back();
        }
        x.steal(7);
        due("what is planned for today can't be", 0, x.first());
        x.back();
        x.plan(6, 9);
        due("no room for both on the ninth day", 2, x.first());
    }

    private static void imageTexts() {
        Checks.at("TEXTS told behind it are gone behind going back");
        ThanksByPost x = Cities.two();
        x.steal(0);
        Checks.rule(x, "dears 11;");
        x.image();
        for (int i = 0; i < 3; i++) {
            for (int k = 1; k < 4; k++) {
                due("told", k, Checks.text(x, "dears " + (20 + 10 * i + k) + ";"));
                x.by(k);
                due("rules", 20 + 10 * i + k, x.law(0, 0));
            }
            due("a fifth", -1, x.text());
            x.back();
            due("texts", 1, x.about(5));
            due("the text that ruled then rules", 0, x.about(6));
            due("as it was", 11, x.law(0, 0));
            for (int k = 1; k < 4; k++) {
                Checks.no("gone", x.by(k));
                due("gone", -2, x.played(k));
            }
        }
        x.by(-1);
        x.image();
        x.by(0);
        x.back();
        due("none ruled then", -1, x.about(6));
        Checks.yes("what was told ahead of it is there", x.by(0));
        due("as it was", 11, x.law(0, 0));
    }

    private static void about() {
        Checks.at("about: 0 OWNERS .. 11 bytes of the tape. -2 for others");
        ThanksByPost x = Cities.full();
        int[] about = {6, 8, 99, 0, 89, 4, 3, 30, 8, 9, 9, 300};
        for (int i = 0; i < 12; i++) due("about(" + i + ")", about[i], x.about(i));
        due("about(-1)", -2, x.about(-1));
        due("about(12)", -2, x.about(12));
    }
}
