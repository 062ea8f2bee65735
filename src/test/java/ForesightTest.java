/** Promises 21 to 25 and 29: what is to come by the days, and 38 to 40: the image and what there is. */
public final class ForesightTest {
    private static final int MIN = Integer.MIN_VALUE;
    private static final int MAX = Integer.MAX_VALUE;

    private static void due(String call, long want, long got) {
        Checks.due(call, want, got);
    }

    /** Two owners and three things: a clock, a piano, a ring. */
    private static ThanksByPost city() {
        ThanksByPost x = new ThanksByPost();
        x.owner(5);
        x.owner(9);
        x.thing(40, 0, 3);
        x.thing(70, 1, 7);
        x.thing(98, 1, 1);
        return x;
    }

    private static ThanksByPost lateCity(int day) {
        ThanksByPost x = city();
        for (int i = 0; i < day / 60; i++) x.day(60);
        if (day % 60 > 0) x.day(day % 60);
        return x;
    }

    public static void main(String[] args) {
        promise21();
        promise22();
        promise23();
        promise24();
        firstOnDays();
        firstOnLastDay();
        promise25();
        fewestByLaws();
        promise29();
        promise38();
        promise39();
        promise40();
        Checks.end();
    }

    private static void promise21() {
        Checks.at("promise 21");
        ThanksByPost x = city();
        x.steal(0);
        due("dear", 48, x.foretold(8, 0, 0));
        due("kept", -1, x.foretold(8, 0, 1));
        due("dear", 49, x.foretold(9, 0, 0));
        due("with", 0, x.foretold(9, 0, 1));
        due("no dearer once it is back", 49, x.foretold(60, 0, 0));
        due("not kept", 70, x.foretold(60, 1, 0));
        due("not kept", 1, x.foretold(1, 1, 1));
        int[][] wrong = {{0, 0, 0}, {61, 0, 0}, {1, -1, 0}, {1, 3, 0}, {1, 0, -1}, {1, 0, 2}, {MAX, 0, 0}, {MIN, 0, 0}, {1, MAX, 0}};
        for (int[] w : wrong) due("wrong", -2, x.foretold(w[0], w[1], w[2]));
        due("nothing changes", 0, x.about(3));
        due("nothing changes", 40, x.of(0, 0));
        due("no step", 1, x.about(7));
        Checks.rule(x, "dears 0-day;after 4;to 1;");
        due("by the text", 34, x.foretold(3, 0, 0));
        due("by the text", 30, x.foretold(4, 0, 0));
        due("by the text", 1, x.foretold(4, 0, 1));
        x = lateCity(9995);
        x.steal(0);
        due("those that can pass", 44, x.foretold(60, 0, 0));
        due("those that can pass", -1, x.foretold(60, 0, 1));
    }

    private static void promise22() {
        Checks.at("promise 22");
        ThanksByPost x = city();
        x.steal(2);
        x.day(2);
        x.steal(0);
        due("none yet", 0, x.pence(6, 1));
        due("the ring", 99, x.pence(7, 1));
        due("not the other's", 0, x.pence(8, 0));
        due("the clock", 49, x.pence(9, 0));
        int[][] wrong = {{0, 0}, {61, 0}, {1, -1}, {1, 2}, {MIN, 0}, {MAX, 0}, {1, MAX}};
        for (int[] w : wrong) due("wrong", -2000000, x.pence(w[0], w[1]));
        due("nothing changes", 0, x.ofOwner(1, 1));
        Checks.rule(x, "after kept-1;to 0;brings pence+10;");
        due("one behind the other", 30, x.pence(1, 0));
    }

    private static void promise23() {
        Checks.at("promise 23");
        ThanksByPost x = city();
        int[][] wrong = {{-2, 0}, {3, 0}, {0, -1}, {0, 61}, {MAX, 0}, {0, MIN}};
        for (int[] w : wrong) due("wrong", -2, x.plan(w[0], w[1]));
        for (int i = 1; i <= 8; i++) due("plan", i, x.plan(i % 3, i == 8 ? 60 : 0));
        due("a ninth", -2, x.plan(0, 0));
        due("planned", 8, x.about(8));
        due("none any more", 0, x.plan(-1, 0));
        due("planned", 0, x.about(8));
        due("one", 1, x.plan(0, 0));
        due("nothing is stolen", 0, x.of(0, 3));
        due("without things", -2, new ThanksByPost().plan(0, 0));
        due("none of none", 0, new ThanksByPost().plan(-1, 99));
    }

    private static void promise24() {
        Checks.at("promise 24");
        ThanksByPost x = city();
        due("nothing is planned", -1, x.first());
        x.plan(0, 0);
        x.plan(2, 0);
        due("all can", -1, x.first());
        x.plan(1, 0);
        due("no room", 2, x.first());
        x.room(11);
        due("room", -1, x.first());
        x.plan(2, 0);
        due("it is kept", 3, x.first());
        due("nothing changes", 1, x.of(2, 3));
        x.plan(-1, 0);
        x.plan(1, 3);
        x.plan(0, 2);
        x.room(9);
        due("by days: the second is the earlier", 0, x.first());
        x.room(2);
        due("by days: the second is the first that can't", 1, x.first());
    }

    private static void firstOnDays() {
        Checks.at("promise 24, days");
        ThanksByPost x = city();
        x.plan(0, 0);
        x.plan(0, 8);
        due("not back yet", 1, x.first());
        x.plan(-1, 0);
        x.plan(0, 0);
        x.plan(0, 9);
        x.plan(0, 60);
        due("back", -1, x.first());
        x.plan(2, 60);
        x.plan(2, 60);
        due("on the last day that is told", 4, x.first());
        // Told ahead, it is from the day on which it is asked that days are counted.
        x.steal(0);
        due("kept", 0, x.first());
        x.day(8);
        x.plan(-1, 0);
        x.plan(0, 1);
        due("tomorrow it is back", -1, x.first());
        x.plan(0, 0);
        due("today it isn't", 1, x.first());
        x = lateCity(9990);
        x.plan(0, 9);
        due("the last day", -1, x.first());
        x.plan(2, 11);
        x.plan(2, 10);
        due("no such days: passed over", -1, x.first());
        x.plan(1, 9);
        due("one that can't on the last day", 3, x.first());
    }

    private static void firstOnLastDay() {
        Checks.at("promise 24, days that can't pass");
        ThanksByPost x = lateCity(9999);
        x.plan(0, 1);
        due("no day can pass", -1, x.first());
        x.plan(0, 1);
        x.plan(1, 60);
        due("even two of one thing", -1, x.first());
        x.plan(0, 0);
        due("this day is there", -1, x.first());
        x.plan(0, 0);
        due("on this day it is kept", 4, x.first());
        x.plan(-1, 0);
        x.steal(2);
        x.plan(2, 1);
        due("kept as it is, no day can pass", -1, x.first());
        x.plan(2, 0);
        due("kept as it is", 1, x.first());
        x = lateCity(9998);
        x.plan(0, 2);
        x.plan(0, 0);
        due("one day can pass, two can't", -1, x.first());
        x.plan(0, 1);
        due("not back on the last day", 2, x.first());
    }

    private static void promise25() {
        Checks.at("promise 25");
        ThanksByPost x = city();
        due("it is", 0, x.fewest(0, 0, 3, -1));
        for (int i = 0; i < 3; i++) due("nothing", 0, x.fewest(0, 0, 3, i));
        due("it can't be", -1, x.fewest(0, 1, 3, -1));
        due("it can't be", -1, x.fewest(0, 1, 3, 0));
        int[][] wrong = {{-1, 0, 1, -1}, {3, 0, 1, -1}, {0, -1, 1, -1}, {0, 2, 1, -1}, {0, 0, 0, -1}, {0, 0, 4, -1},
            {0, 0, 2, 2}, {0, 0, 2, -2}, {0, 0, 3, 3}, {0, 0, MAX, 0}, {0, 0, 3, MAX}, {0, 0, MIN, MIN}};
        for (int[] w : wrong) due("wrong", -1, x.fewest(w[0], w[1], w[2], w[3]));
        x.steal(0);
        due("a sending", 1, x.fewest(0, 0, 3, -1));
        due("as late as can be", 0, x.fewest(0, 0, 3, 0));
        due("as late as can be", 0, x.fewest(0, 0, 3, 1));
        due("as late as can be", 10, x.fewest(0, 0, 3, 2));
        due("nothing changes", -1, x.of(0, 3));
        due("no step", 1, x.about(7));
        x.day(7);
        due("it comes by itself", 0, x.fewest(0, 0, 2, -1));
        due("not by then", 1, x.fewest(0, 0, 1, -1));
        due("not by then", 10, x.fewest(0, 0, 1, 0));
    }

    private static void fewestByLaws() {
        Checks.at("promise 25, laws");
        ThanksByPost x = city();
        Checks.rule(x, "to 1;");
        due("stolen and sent", 2, x.fewest(0, 1, 2, -1));
        due("stolen", 1, x.fewest(0, 1, 2, 0));
        due("sent", 10, x.fewest(0, 1, 2, 1));
        due("nothing first", 0, x.fewest(0, 1, 3, 0));
        due("then stolen", 1, x.fewest(0, 1, 3, 1));
        due("then sent", 10, x.fewest(0, 1, 3, 2));
        due("not in one day", -1, x.fewest(0, 1, 1, -1));
        // The ring: number 2.
        Checks.rule(x, "to 0;");
        due("stolen", 3, x.fewest(2, 0, 2, 0));
        due("sent", 12, x.fewest(2, 0, 2, 1));
        // Kept a day it comes back by itself.
        Checks.rule(x, "after 1;to left day of 2;");
        due("one act", 1, x.fewest(0, 1, 1, -1));
        due("the theft", 1, x.fewest(0, 1, 1, 0));
        due("on the third day", 0, x.fewest(0, 1, 3, 1));
        due("on the third day", 1, x.fewest(0, 1, 3, 2));
        // No room until the piano is sent: three acts.
        x = city();
        Checks.rule(x, "to 1;");
        x.steal(1);
        x.give(0, 0);
        x.room(7);
        due("the piano is sent, the clock stolen and sent", 3, x.fewest(0, 1, 3, -1));
        due("sent", 11, x.fewest(0, 1, 3, 0));
        due("stolen", 1, x.fewest(0, 1, 3, 1));
        due("sent", 10, x.fewest(0, 1, 3, 2));
        due("not in two", -1, x.fewest(0, 1, 2, -1));
        x = lateCity(9991);
        x.steal(0);
        x.day(8);
        due("no day can pass, acts can", 1, x.fewest(0, 0, 1, -1));
    }

    private static void promise29() {
        Checks.at("promise 29");
        ThanksByPost x = city();
        due("fewest", 5, x.since(0, 10, 15, false));
        due("at once", 0, x.since(0, 10, 10, false));
        due("at once", 0, x.since(0, 10, 10, true));
        due("sixty", 60, x.since(0, 10, 70, true));
        due("too long", -1, x.since(0, 10, 71, true));
        due("at the bound: fewest", 9, x.since(0, 90, 99, false));
        due("at the bound: most", 60, x.since(0, 90, 99, true));
        int[][] wrong = {{-1, 0, 0}, {3, 0, 0}, {0, -1, 0}, {0, 100, 0}, {0, 0, -1}, {0, 0, 100}, {MAX, 0, 0}, {0, MIN, 0}};
        for (int[] w : wrong) due("wrong", -1, x.since(w[0], w[1], w[2], false));
        x.give(1, 0);
        x.day(3);
        Checks.rule(x, "dears if left kept of 2=1 then bulk else 0-bulk end;after 0;");
        due("kept goes on", 1, x.since(1, 10, 17, false));
        due("kept goes on", 59, x.since(1, 10, 17, true));
        due("nothing comes back", 60, x.since(1, 10, 10, true));
        Checks.rule(x, "dears if day=5 then 50 else 0 end;");
        due("day goes on from now", 2, x.since(1, 10, 60, false));
        due("and is its own", 60, x.since(1, 10, 60, true));
        due("not yet", 1, x.since(1, 10, 10, true));
        Checks.rule(x, "dears kept;");
        due("days kept count from 0", 3, x.since(2, 0, 6, false));
        x.steal(2);
        x.day(1);
        due("days kept count from 0, though it is kept", 3, x.since(2, 0, 6, false));
        x.undo();
        x.undo();
        Checks.rule(x, "dears 0-1;");
        due("to 0", 3, x.since(1, 3, 0, false));
        x.back();
        x = city();
        x.give(1, 0);
        x.day(3);
        Checks.rule(x, "dears from*10+owner;");
        due("from whom it is with", 7, x.since(1, 10, 17, false));
        x.steal(1);
        x.day(2);
        due("from whom it was stolen", 7, x.since(1, 10, 17, false));
        due("nothing changes", 72, x.of(1, 0));
        due("nothing changes", 5, x.about(3));
    }

    private static void promise38() {
        Checks.at("promise 38");
        ThanksByPost x = city();
        x.day(12);
        due("image", 12, x.image());
        due("no step", 12, x.about(7));
        x.day(3);
        due("image again", 15, x.image());
        x.day(1);
        due("the latest image", 15, x.back());
    }

    private static void promise39() {
        Checks.at("promise 39");
        ThanksByPost x = city();
        Checks.rule(x, "dears 2;");
        x.plan(0, 1);
        x.vote(5);
        x.seen(4, 5, true);
        x.decades(7, 3);
        x.undo();
        x.room(20);
        x.steal(0);
        x.day(2);
        x.image();
        x.steal(1);
        x.day(9);
        x.owner(2);
        x.thing(3, 2, 1);
        Checks.rule(x, "dears 3;");
        x.plan(1, 1);
        x.vote(6);
        x.seen(6, 7, false);
        x.room(30);
        x.decades(8, 5);
        Checks.text(x, "dears;");
        x.feed(1, 2, 3, 4, 5);
        due("back", 2, x.back());
        int[] about = {2, 3, 20, 2, 89, 1, 0, 3, 1, 1, 1, 20};
        for (int i = 0; i < about.length; i++) due("about(" + i + ")", about[i], x.about(i));
        due("the latest fault stays", 1, x.fault(0));
        due("its place stays", 5, x.fault(1));
        due("kept", -1, x.of(0, 3));
        due("dear", 44, x.of(0, 0));
        due("the text of then rules", 2, x.law(0, 0));
        due("not kept", 1, x.of(1, 3));
        due("no pence", 0, x.ofOwner(0, 1));
        due("empty book", 0, x.book(-1, 0));
        due("steps", 2, x.undo());
        due("undone", 42, x.of(0, 0));
        x.undo();
        x.undo();
        due("undone", 0, x.of(0, 3));
        due("the image stays", 2, x.back());
        due("steps as well", 3, x.about(7));
        due("texts are told anew", 1, Checks.text(x, "dears 9;"));
        x.by(1);
        due("the new one", 9, x.law(0, 0));
        x.back();
        due("the old one", 2, x.law(0, 0));
        Checks.no("it is gone", x.by(1));
        due("votes", 5, x.voted(false));
        lists();
        cards();
    }

    private static void lists() {
        ThanksByPost x = city();
        x.room(99);
        x.plan(0, 0);
        x.plan(0, 3);
        x.vote(10);
        x.vote(30);
        x.seen(50, 4, true);
        x.seen(20, 3, false);
        x.image();
        x.plan(-1, 0);
        x.plan(1, 60);
        x.vote(-1);
        x.vote(77);
        x.vote(78);
        x.seen(-1, 0, false);
        x.seen(5, 9, false);
        x.seen(70, 9, true);
        x.back();
        due("planned as they were", 1, x.first());
        due("votes as they were", 20, x.voted(true));
        due("seen happy as they were", 4, x.rule());
        x.seen(50, 2, false);
        x.seen(10, 9, false);
        due("dear as it was", 1104, x.rule());
    }

    private static void cards() {
        ThanksByPost x = city();
        x.room(99);
        x.steal(2);
        x.send(2);
        x.steal(0);
        x.day(1);
        x.image();
        for (int i = 0; i < 40; i++) {
            x.steal(1);
            x.send(1);
        }
        x.back();
        due("the book as it was", 1, x.book(-1, 0));
        due("its card", 2, x.book(0, 1));
        due("steps", 4, x.about(7));
        x.undo();
        due("steps as they were", 0, x.about(3));
        due("kept", 0, x.of(0, 4));
        x.undo();
        due("steps as they were", 0, x.of(0, 3));
        x.undo();
        due("kept ahead of it was sent", 1, x.of(2, 5));
        due("no book then", 0, x.book(-1, 0));
    }

    private static void promise40() {
        Checks.at("promise 40");
        ThanksByPost x = city();
        x.room(17);
        x.decades(0, 1);
        Checks.text(x, "");
        Checks.rule(x, "");
        x.plan(0, 0);
        x.plan(0, 0);
        for (int i = 0; i < 4; i++) x.vote(i);
        for (int i = 0; i < 5; i++) x.seen(i, 1, true);
        x.day(3);
        x.feed(0, 0, 0, 0, 0);
        x.end(19);
        int[] about = {2, 3, 17, 4, 27772, 2, 1, 4, 2, 4, 5, 19};
        for (int i = 0; i < about.length; i++) due("about(" + i + ")", about[i], x.about(i));
        for (int what : new int[] {-1, 12, MIN, MAX}) due("wrong", -2, x.about(what));
    }
}
