/** Part I of the terms, sentence by sentence: the last that can be and the first that can't, empty and full. */
public final class CityEdgesTest {
    private static void due(String call, long want, long got) {
        Checks.due(call, want, got);
    }

    /** Owners and things of like lives, dear and bulk, things with the first. */
    private static ThanksByPost city(int owners, int things, int dear, int bulk) {
        ThanksByPost x = new ThanksByPost();
        for (int i = 0; i < owners; i++) x.owner(5);
        for (int i = 0; i < things; i++) x.thing(dear, 0, bulk);
        return x;
    }

    public static void main(String[] args) {
        owners();
        things();
        room();
        roomToldLess();
        aDayFrom();
        latestReturns();
        stolen();
        sent();
        given();
        comesBack();
        penceBounds();
        aDay();
        dearBounds();
        asAllIsThen();
        keptAsManyDays();
        keptToTheLast();
        lastDay();
        steps();
        latestThirty();
        takenBack();
        toldSince();
        notTakenBack();
        decades();
        drawn();
        drawnAway();
        ofOwner();
        ofThing();
        lawOf();
        Checks.end();
    }

    private static void owners() {
        Checks.at("OWNERS 0 .. 5 (told one by one): LIVES 0 .. 10");
        ThanksByPost x = new ThanksByPost();
        int[] lives = {0, 10, 1, 9, 5, 10};
        for (int i = 0; i < 6; i++) {
            due("below", -1, x.owner(-1));
            due("above", -1, x.owner(11));
            due("owners told", i, x.about(0));
            due("none such yet", -2000000, x.ofOwner(i, 0));
            due("told", i, x.owner(lives[i]));
            due("pence at first", 0, x.ofOwner(i, 1));
            due("things at first", 0, x.ofOwner(i, 2));
        }
        due("a seventh", -1, x.owner(0));
        due("a seventh", -1, x.owner(10));
        due("no owner 6", -2000000, x.ofOwner(6, 0));
        for (int i = 0; i < 6; i++) due("lives " + i, lives[i], x.ofOwner(i, 0));
        others();
    }

    /** What is told is told of itself alone. */
    private static void others() {
        Checks.at("PENCE (any; at first 0); LIVES; of the one that is told");
        ThanksByPost x = city(3, 1, 10, 1);
        x.give(0, 1);
        x.steal(0);
        x.send(0);
        due("told", 3, x.owner(2));
        due("pence of the second", 10, x.ofOwner(1, 1));
        x.give(0, 0);
        x.steal(0);
        x.send(0);
        due("told", 4, x.owner(3));
        int[] pence = {10, 10, 0, 0, 0};
        int[] owns = {5, 5, 5, 2, 3};
        for (int i = 0; i < 5; i++) {
            due("pence of " + i, pence[i], x.ofOwner(i, 1));
            due("lives of " + i, owns[i], x.ofOwner(i, 0));
        }
        x.thing(33, 4, 3);
        due("the first thing is as dear as ever", 10, x.of(0, 0));
        due("and with whom it was", 0, x.of(0, 3));
    }

    private static void things() {
        Checks.at("THINGS 0 .. 7 (told one by one): its first OWNER, DEAR 0 .. 99, BULK 1 .. 9");
        ThanksByPost x = new ThanksByPost();
        due("without owners", -1, x.thing(5, 0, 5));
        for (int i = 0; i < 5; i++) {
            x.owner(1);
            due("the owner told last", i, x.thing(i % 2 == 0 ? 0 : 99, i, i % 2 == 0 ? 9 : 1));
            due("an owner not told yet", -1, x.thing(5, i + 1, 5));
            due("dear below", -1, x.thing(-1, i, 5));
            due("dear above", -1, x.thing(100, i, 5));
            due("bulk below", -1, x.thing(5, i, 0));
            due("bulk above", -1, x.thing(5, i, 10));
            due("told", i + 1, x.about(1));
            due("none such yet", -2, x.of(i + 1, 0));
        }
        x.owner(1);
        due("of the sixth owner", 5, x.thing(99, 5, 9));
        due("of a seventh", -1, x.thing(99, 6, 9));
        due("the seventh thing", 6, x.thing(0, 0, 1));
        due("the eighth thing", 7, x.thing(50, 5, 5));
        due("a ninth", -1, x.thing(50, 5, 5));
        for (int i = 0; i < 6; i++) {
            due("its first owner", i, x.of(i, 2));
            due("at first with that one", i, x.of(i, 3));
            due("not kept since any day", -1, x.of(i, 4));
            due("not kept from any", -1, x.of(i, 5));
        }
        due("dear", 99, x.of(5, 0));
        due("bulk", 9, x.of(5, 1));
        due("dear", 0, x.of(6, 0));
        due("bulk", 1, x.of(6, 1));
        due("no thing 8", -2, x.of(8, 0));
    }

    private static void room() {
        Checks.at("ROOM 0 .. 99 (told; at first 9)");
        ThanksByPost x = city(1, 2, 10, 9);
        due("nine are nine", 9, x.steal(0));
        x = new ThanksByPost();
        x.owner(1);
        x.thing(10, 0, 1);
        x.thing(10, 0, 9);
        x.thing(10, 0, 8);
        x.steal(0);
        due("one and nine are ten", -1, x.steal(1));
        due("one and eight are nine", 9, x.steal(2));
        Checks.no("-1", x.room(-1));
        Checks.no("100", x.room(100));
        due("as at first", 9, x.about(2));
        Checks.yes("0", x.room(0));
        due("0", 0, x.about(2));
        Checks.yes("99", x.room(99));
        due("99", 99, x.about(2));
        Checks.yes("99 again", x.room(99));
        x = city(1, 8, 10, 9);
        x.room(71);
        for (int i = 0; i < 7; i++) due("nine more", 9 * i + 9, x.steal(i));
        due("71 have no room for 72", -1, x.steal(7));
        x.room(72);
        due("72 have", 72, x.steal(7));
        x = city(1, 1, 10, 1);
        x.room(0);
        due("no room at all", -1, x.steal(0));
        x.room(1);
        due("room for one", 1, x.steal(0));
    }

    private static void roomToldLess() {
        Checks.at("no more than ROOM, unless it was told less later");
        ThanksByPost x = city(2, 4, 10, 4);
        x.room(12);
        for (int i = 0; i < 3; i++) x.steal(i);
        x.room(5);
        for (int i = 0; i < 3; i++) due("it is kept all the same", -1, x.of(i, 3));
        due("nothing can be stolen", -1, x.steal(3));
        due("sent", 0, x.send(0));
        due("eight are kept", -1, x.steal(3));
        x.send(1);
        due("four are kept, and four are eight", -1, x.steal(3));
        x.room(8);
        due("just as much as there is room", 8, x.steal(3));
        x.room(0);
        due("days pass as ever", 2, x.day(9));
        due("sent by days", 0, x.of(3, 3));
        // What is taken back is kept again, whatever ROOM was told since.
        for (int i = 0; i < 9; i++) x.undo();
        due("kept again", -1, x.of(3, 3));
        due("room isn't taken back", 0, x.about(2));
    }

    private static void aDayFrom() {
        Checks.at("KEPT (since a DAY, FROM an OWNER); DAY 0 .. 9999 (at first 0)");
        ThanksByPost x = city(6, 2, 10, 1);
        due("at first", 0, x.about(3));
        x.steal(0);
        due("since the first day", 0, x.of(0, 4));
        due("from the first owner", 0, x.of(0, 5));
        Cities.passTo(x, 9999);
        x.give(0, 5);
        x.steal(0);
        due("since the last day", 9999, x.of(0, 4));
        due("from the last owner", 5, x.of(0, 5));
        x.send(0);
        due("on the last day", 9999, x.book(1, 0));
        due("to the last owner", 5, x.book(1, 2));
        due("since none", -1, x.of(0, 4));
        due("from none", -1, x.of(0, 5));
    }

    private static void latestReturns() {
        Checks.at("BOOK (the latest 30 returns): DAY, THING, to whom, how DEAR");
        ThanksByPost x = new ThanksByPost();
        for (int i = 0; i < 6; i++) x.owner(1);
        for (int i = 0; i < 8; i++) x.thing(i == 7 ? 99 : i, i % 6, 1);
        due("empty", 0, x.book(-1, 0));
        due("none in it", -2, x.book(0, 0));
        for (int i = 0; i < 29; i++) {
            x.steal(i % 8);
            x.send(i % 8);
            due("written", i + 1, x.book(-1, 0));
            due("the latest", i % 8, x.book(i, 1));
            due("none behind it", -2, x.book(i + 1, 1));
            due("the eldest", 0, x.book(0, 1));
        }
        x.day(3);
        x.give(7, 5);
        x.steal(7);
        x.send(7);
        due("the thirtieth", 30, x.book(-1, 0));
        due("the eldest is the first yet", 0, x.book(0, 1));
        int[] latest = {3, 7, 5, 99};
        for (int i = 0; i < 4; i++) due("book(29, " + i + ")", latest[i], x.book(29, i));
        x.day(1);
        x.steal(6);
        x.send(6);
        due("thirty yet", 30, x.book(-1, 0));
        due("the first is gone", 1, x.book(0, 1));
        for (int i = 0; i < 4; i++) due("book(28, " + i + ")", latest[i], x.book(28, i));
        int[] behind = {4, 6, 0, 6};
        for (int i = 0; i < 4; i++) due("book(29, " + i + ")", behind[i], x.book(29, i));
        due("no thirty-first", -2, x.book(30, 1));
    }

    private static void stolen() {
        Checks.at("STOLEN: a THING that isn't KEPT, if ROOM has BULK for it");
        ThanksByPost x = city(2, 2, 10, 5);
        due("stolen", 5, x.steal(0));
        due("kept, though there were room", -1, x.steal(0));
        due("no room for ten", -1, x.steal(1));
        x.room(10);
        due("kept, though there is room", -1, x.steal(0));
        due("two steps", 1, x.about(7));
        x.give(1, 1);
        due("BULK of all KEPT", 10, x.steal(1));
        due("FROM whom it was with", 1, x.of(1, 5));
        due("its first owner stays", 0, x.of(1, 2));
        due("no thing 2", -1, x.steal(2));
        due("steps", 3, x.about(7));
    }

    private static void sent() {
        Checks.at("SENT: a KEPT THING comes back, however long it was KEPT");
        ThanksByPost x = city(2, 1, 10, 5);
        due("not kept", -1, x.send(0));
        x.steal(0);
        due("kept for no day", 0, x.send(0));
        due("not kept any more", -1, x.send(0));
        Checks.rule(x, "after 9999;");
        x.steal(0);
        x.day(60);
        due("kept for sixty days, which was told to be far longer", 0, x.send(0));
        due("as dear as that", 70, x.book(1, 3));
        due("it needn't be done to be none", -1, x.send(1));
    }

    private static void given() {
        Checks.at("GIVEN: a THING that isn't KEPT is with another OWNER");
        ThanksByPost x = city(6, 8, 10, 5);
        Checks.no("with that one", x.give(7, 0));
        Checks.yes("the last thing to the last owner", x.give(7, 5));
        Checks.no("with that one now", x.give(7, 5));
        Checks.no("no owner 6", x.give(7, 6));
        Checks.no("no thing 8", x.give(8, 5));
        due("one step", 1, x.about(7));
        Checks.yes("back again", x.give(7, 0));
        x.steal(7);
        Checks.no("kept", x.give(7, 5));
        Checks.no("kept, from that one", x.give(7, 0));
        due("from", 0, x.of(7, 5));
        due("it brings nothing", 0, x.ofOwner(5, 1));
        due("it is not written", 0, x.book(-1, 0));
    }

    private static void comesBack() {
        Checks.at("COMES BACK: with the OWNER that to says, whose PENCE are more by brings; it is written down");
        ThanksByPost x = city(3, 2, 10, 1);
        Checks.rule(x, "to 1;brings 0-7;");
        x.steal(0);
        due("to", 1, x.send(0));
        due("with", 1, x.of(0, 3));
        due("less pence by what is below 0", -7, x.ofOwner(1, 1));
        due("not the pence of FROM", 0, x.ofOwner(0, 1));
        Checks.rule(x, "to 1;brings pence*10+kept;");
        x.steal(0);
        x.day(4);
        x.send(0);
        due("pence as ahead of it", -7 - 70 + 4, x.ofOwner(1, 1));
        Checks.rule(x, "brings 0;");
        x.steal(1);
        due("brings nothing", 0, x.send(1));
        due("no pence", 0, x.ofOwner(0, 1));
        due("it is written all the same", 3, x.book(-1, 0));
    }

    private static void penceBounds() {
        Checks.at("PENCE are from -1000000 to 1000000: what would be beyond is that");
        for (int sign = -1; sign <= 1; sign += 2) {
            ThanksByPost x = city(1, 2, 10, 1);
            String by = sign < 0 ? "0-" : "";
            Checks.rule(x, "after 1;brings " + by + "9999;");
            for (int i = 0; i < 100; i++) {
                x.steal(0);
                if (i % 2 == 0) x.send(0);
                else x.day(1);
            }
            due("not yet", sign * 999900, x.ofOwner(0, 1));
            Checks.rule(x, "after 1;brings " + by + "99;");
            x.steal(0);
            x.send(0);
            due("one below the bound", sign * 999999, x.ofOwner(0, 1));
            Checks.rule(x, "after 1;brings " + by + "2;");
            x.steal(0);
            x.steal(1);
            due("foretold: beyond", sign * 1000000, x.pence(1, 0));
            due("and both of them", 2, x.day(1));
            due("beyond", sign * 1000000, x.ofOwner(0, 1));
            due("taken back", 29, x.undo());
            due("as it was", sign * 999999, x.ofOwner(0, 1));
            x.send(0);
            due("beyond", sign * 1000000, x.ofOwner(0, 1));
            Checks.rule(x, "after 1;brings " + (sign < 0 ? "" : "0-") + "1;");
            x.send(1);
            due("from the bound back", sign * 999999, x.ofOwner(0, 1));
        }
        ThanksByPost x = city(1, 1, 10, 1);
        Checks.rule(x, "brings 9999;");
        for (int i = 0; i < 100; i++) {
            x.steal(0);
            x.send(0);
        }
        Checks.rule(x, "brings 100;");
        x.steal(0);
        x.send(0);
        due("just the bound", 1000000, x.ofOwner(0, 1));
    }

    private static void aDay() {
        Checks.at("A DAY: DAY is one more; then THINGS by number, that are KEPT");
        ThanksByPost x = city(2, 3, 10, 1);
        x.steal(1);
        due("none comes back", 0, x.day(1));
        due("day", 1, x.about(3));
        due("dearer is what is kept", 11, x.of(1, 0));
        due("not what isn't", 10, x.of(0, 0));
        due("nor that", 10, x.of(2, 0));
        x.steal(2);
        x.steal(0);
        due("each behind its own nine days", 1, x.day(8));
        due("the two others", 2, x.day(60));
        due("by number: the second first", 1, x.book(0, 1));
        due("then, though it was stolen later, the first", 0, x.book(1, 1));
        due("and the third", 2, x.book(2, 1));
        due("both on one day", 10, x.book(1, 0));
        due("both on one day", 10, x.book(2, 0));
        due("back, it is dearer no more", 19, x.of(2, 0));
        due("day", 69, x.about(3));
        for (int n : new int[] {0, 61, -1, 62}) due("day(" + n + ")", -1, x.day(n));
        due("day", 69, x.about(3));
        due("a day", 0, x.day(1));
        due("sixty", 0, x.day(60));
        due("day", 130, x.about(3));
        x = city(1, 8, 10, 1);
        for (int i = 7; i >= 0; i--) x.steal(i);
        due("all eight, on one of sixty days", 8, x.day(60));
        for (int i = 0; i < 8; i++) due("by number", i, x.book(i, 1));
        for (int i = 7; i >= 0; i--) x.steal(i);
        due("none on eight days", 0, x.day(8));
        due("all eight on the ninth", 8, x.day(1));
    }

    private static void dears(int dear, String dears, int want) {
        ThanksByPost x = city(1, 1, dear, 1);
        Checks.rule(x, "dears " + dears + ";");
        x.steal(0);
        x.day(1);
        due(dear + " and " + dears, want, x.of(0, 0));
    }

    private static void dearBounds() {
        Checks.at("DEAR is more by dears (from 0 to 99)");
        dears(98, "1", 99);
        dears(98, "2", 99);
        dears(99, "1", 99);
        dears(99, "99", 99);
        dears(0, "99", 99);
        dears(1, "99", 99);
        dears(0, "98", 98);
        dears(1, "0-1", 0);
        dears(1, "0-2", 0);
        dears(0, "0-1", 0);
        dears(0, "0-99", 0);
        dears(99, "0-99", 0);
        dears(99, "0-98", 1);
        dears(98, "0-99", 0);
        dears(50, "0", 50);
        ThanksByPost x = city(1, 1, 98, 1);
        x.steal(0);
        x.day(2);
        due("at the bound", 99, x.of(0, 0));
        Checks.rule(x, "dears 0-1;");
        x.day(1);
        due("back from the bound itself", 98, x.of(0, 0));
    }

    private static void asAllIsThen() {
        Checks.at("each as all is then");
        ThanksByPost x = city(2, 3, 10, 1);
        Checks.rule(x, "dears 5;after if dear>=15 then 1 else 2 end;to 1;brings pence+dear;");
        for (int i = 0; i < 3; i++) x.steal(i);
        due("after is asked of the thing as dear as it has become", 3, x.day(1));
        due("pence of one behind the other: 15, 45, 105", 105, x.ofOwner(1, 1));
        x = city(1, 1, 10, 1);
        Checks.rule(x, "dears day*10+kept;after 9;");
        x.day(3);
        x.steal(0);
        x.day(1);
        due("the day is the new one, kept is 1", 10 + 41, x.of(0, 0));
        due("foretold likewise", 99, x.foretold(1, 0, 0));
    }

    private static void keptAsManyDays() {
        Checks.at("if it was KEPT as many days as after says at least, it COMES BACK");
        for (int after = 0; after <= 12; after++) {
            ThanksByPost x = city(1, 1, 10, 1);
            x.day(5);
            Checks.rule(x, "after " + after + ";");
            x.steal(0);
            due("no day has passed", -1, x.of(0, 3));
            for (int kept = 1; kept < after; kept++) due("not yet: " + kept + " of " + after, 0, x.day(1));
            due("kept for " + after, 1, x.day(1));
            due("on that day", 5 + Math.max(1, after), x.book(0, 0));
        }
        ThanksByPost x = city(1, 1, 10, 1);
        x.steal(0);
        due("without a law eight days are none", 0, x.day(8));
        due("the ninth is", 1, x.day(1));
        x.steal(0);
        x.day(7);
        Checks.rule(x, "after 3;");
        due("told less later: the next day", 1, x.day(1));
        due("kept for longer", 17, x.book(1, 0));
    }

    private static void keptToTheLast() {
        Checks.at("after: 9999 at most; DAY 0 .. 9999");
        for (int from = 0; from <= 1; from++) {
            ThanksByPost x = city(1, 1, 10, 1);
            Checks.rule(x, "dears 0;after 9999*9;");
            if (from == 1) x.day(1);
            x.steal(0);
            Cities.passTo(x, 9998);
            due("kept", -1, x.of(0, 3));
            due("kept since the day of the theft", from, x.of(0, 4));
            due("kept for 9999 days at last, from day 0 alone", 1 - from, x.day(1));
            due("day", 9999, x.about(3));
            due("sent however long it was kept", from == 1 ? 0 : -1, x.send(0));
        }
    }

    private static void lastDay() {
        Checks.at("(At DAY 9999 none can pass.)");
        ThanksByPost x = Cities.late(9938);
        due("sixty-two beyond", -1, x.day(62));
        x.steal(0);
        due("sixty", 1, x.day(60));
        due("day", 9998, x.about(3));
        x.steal(0);
        due("two are one too many", -1, x.day(2));
        due("not even one has passed", 9998, x.about(3));
        due("nothing is dearer", 49, x.of(0, 0));
        due("one", 0, x.day(1));
        due("day", 9999, x.about(3));
        due("dearer", 50, x.of(0, 0));
        int steps = x.about(7);
        due("none", -1, x.day(1));
        due("none", -1, x.day(60));
        due("no step", steps, x.about(7));
        due("nothing is dearer", 50, x.of(0, 0));
        due("foretold as it is", 50, x.foretold(60, 0, 0));
        x.undo();
        due("taken back", 9998, x.about(3));
        due("and passed again", 0, x.day(1));
        due("thefts go on", 4, x.steal(2));
        due("since", 9999, x.of(2, 4));
        due("sendings go on", 1, x.send(2));
        Checks.yes("gifts go on", x.give(1, 0));
        x = Cities.late(9939);
        due("sixty to the last", 0, x.day(60));
        due("day", 9999, x.about(3));
        x = Cities.late(9940);
        due("sixty from there are beyond", -1, x.day(60));
        due("fifty-nine", 0, x.day(59));
    }

    private static void steps() {
        Checks.at("STEPS: STOLEN, SENT, GIVEN, a DAY (each), DECADES");
        ThanksByPost x = city(2, 2, 10, 5);
        due("none yet", 0, x.about(7));
        x.room(9);
        x.image();
        x.plan(0, 0);
        x.vote(1);
        x.seen(1, 1, true);
        Checks.rule(x, "brings 1;");
        due("none of these is one", 0, x.about(7));
        x.steal(0);
        due("a theft", 1, x.about(7));
        x.steal(0);
        x.steal(1);
        due("not one that can't be", 1, x.about(7));
        x.send(0);
        due("a sending", 2, x.about(7));
        x.send(0);
        due("not one that can't be", 2, x.about(7));
        x.give(0, 1);
        due("a gift", 3, x.about(7));
        x.give(0, 1);
        due("not one that can't be", 3, x.about(7));
        x.day(4);
        due("each day", 7, x.about(7));
        x.day(61);
        due("not those that can't be", 7, x.about(7));
        x.decades(1, 30);
        due("decades are one", 8, x.about(7));
        x.decades(1, 31);
        due("not those that can't be", 8, x.about(7));
        Checks.text(x, "give 0 to 0;steal 0;day 2;send 0;send 0;");
        x.back();
        due("as at the image", 0, x.about(7));
        x.give(0, 1);
        Checks.text(x, "give 0 to 0;steal 0;day 2;send 0;send 0;");
        x.played(0);
        due("as by hand, and none for what can't be", 6, x.about(7));
    }

    private static void latestThirty() {
        Checks.at("the latest 30 can be taken back, the latest first");
        ThanksByPost x = city(2, 1, 10, 1);
        due("none", -1, x.undo());
        for (int i = 1; i <= 33; i++) {
            x.give(0, i % 2);
            due("steps", Math.min(i, 30), x.about(7));
        }
        for (int i = 29; i >= 0; i--) {
            due("how many can be yet", i, x.undo());
            due("as ahead of it", (i + 3) % 2, x.of(0, 3));
        }
        due("no thirty-first", -1, x.undo());
        due("the third gift stays", 1, x.of(0, 3));
        x = city(1, 1, 10, 1);
        x.day(60);
        due("thirty of sixty days", 30, x.about(7));
        for (int i = 29; i >= 0; i--) x.undo();
        due("thirty days are taken back", 30, x.about(3));
        due("and no more", -1, x.undo());
        due("day", 30, x.about(3));
        x.day(7);
        due("new ones", 7, x.about(7));
        x.undo();
        due("day", 36, x.about(3));
        x.steal(0);
        due("in place of what was taken back", 7, x.about(7));
        x.undo();
        x.undo();
        due("day", 35, x.about(3));
    }

    private static void takenBack() {
        Checks.at("PENCE, DEAR, with whom THINGS are, since when, FROM whom, DAY, X, BOOK are as ahead of it");
        ThanksByPost x = new ThanksByPost();
        for (int i = 0; i < 6; i++) x.owner(5);
        for (int i = 0; i < 8; i++) x.thing(90 + i, i % 6, 1);
        x.decades(0, 1);
        due("x", 27772, x.about(4));
        x.give(7, 5);
        x.steal(7);
        x.day(3);
        x.decades(9999, 1);
        x.send(7);
        due("pence", 99, x.ofOwner(5, 1));
        due("undo", 7, x.undo());
        due("pence", 0, x.ofOwner(5, 1));
        due("with", -1, x.of(7, 3));
        due("since", 1, x.of(7, 4));
        due("from", 5, x.of(7, 5));
        due("book", 0, x.book(-1, 0));
        due("x behind the decades", 22699, x.about(4));
        due("undo", 6, x.undo());
        due("x as ahead of the decades", 27772, x.about(4));
        due("undo", 5, x.undo());
        due("day", 3, x.about(3));
        due("dear", 99, x.of(7, 0));
        x.undo();
        x.undo();
        due("day", 1, x.about(3));
        due("dear", 97, x.of(7, 0));
        due("the theft", 2, x.undo());
        due("with", 5, x.of(7, 3));
        due("since", -1, x.of(7, 4));
        due("the gift", 1, x.undo());
        due("with", 1, x.of(7, 3));
        due("the first decades", 0, x.undo());
        due("x as at first", 89, x.about(4));
        due("day", 0, x.about(3));
        due("none", -1, x.undo());
        fullBookTakenBack();
    }

    private static void fullBookTakenBack() {
        ThanksByPost x = city(1, 2, 10, 1);
        x.steal(1);
        x.send(1);
        for (int i = 0; i < 29; i++) {
            x.steal(0);
            x.send(0);
        }
        due("full", 30, x.book(-1, 0));
        due("the eldest", 1, x.book(0, 1));
        x.steal(0);
        due("a theft writes nothing", 1, x.book(0, 1));
        x.send(0);
        due("the eldest is gone", 0, x.book(0, 1));
        due("thirty yet", 30, x.book(-1, 0));
        x.undo();
        due("the eldest is there again", 1, x.book(0, 1));
        due("thirty", 30, x.book(-1, 0));
        x.undo();
        due("a theft wrote nothing", 1, x.book(0, 1));
        x.undo();
        due("twenty-nine", 29, x.book(-1, 0));
        due("none such", -2, x.book(29, 0));
    }

    private static void toldSince() {
        Checks.at("OWNERS told since have PENCE 0, THINGS told since are as told");
        ThanksByPost x = city(1, 1, 10, 1);
        x.steal(0);
        due("told since", 1, x.owner(7));
        due("told since", 1, x.thing(96, 1, 2));
        x.steal(1);
        x.day(5);
        x.send(1);
        due("pence", 99, x.ofOwner(1, 1));
        x.give(1, 0);
        for (int i = 8; i >= 1; i--) due("undo", i, x.undo());
        due("as told", 96, x.of(1, 0));
        due("with its first owner", 1, x.of(1, 3));
        x.give(1, 0);
        x.steal(1);
        x.day(1);
        x.send(1);
        for (int i = 4; i >= 0; i--) x.undo();
        due("the one step ahead of its being told", 0, x.about(7));
        due("told yet", 2, x.about(1));
        due("told yet", 2, x.about(0));
        due("as told", 96, x.of(1, 0));
        due("as told", 2, x.of(1, 1));
        due("as told", 1, x.of(1, 3));
        due("not kept", -1, x.of(1, 4));
        due("lives as told", 7, x.ofOwner(1, 0));
        due("pence", 0, x.ofOwner(1, 1));
        due("the first thing as ahead of the theft", 0, x.of(0, 3));
        x = city(1, 1, 10, 1);
        x.steal(0);
        for (int i = 0; i < 3; i++) {
            x.owner(i);
            x.thing(50 + i, i + 1, 2 + i);
        }
        due("undo", 0, x.undo());
        for (int i = 0; i < 3; i++) {
            due("each as told", 50 + i, x.of(i + 1, 0));
            due("each as told", i + 1, x.of(i + 1, 3));
            due("each as told", i, x.ofOwner(i + 1, 0));
        }
        // Told behind the step that is taken back, with no step of its own in between.
        x = city(1, 1, 10, 1);
        x.day(1);
        x.owner(3);
        x.thing(50, 1, 9);
        due("undo", 0, x.undo());
        due("things", 2, x.about(1));
        due("as told", 1, x.of(1, 3));
        due("stolen then", 9, x.steal(1));
        due("undo", 0, x.undo());
        due("as told", 1, x.of(1, 3));
    }

    private static void notTakenBack() {
        Checks.at("what a STEP that is taken back leaves as it is");
        ThanksByPost x = city(1, 1, 10, 1);
        Checks.text(x, "dears 7;");
        x.steal(0);
        x.room(33);
        x.by(0);
        Checks.text(x, "dears 8;");
        x.plan(0, 4);
        x.vote(44);
        x.seen(4, 4, false);
        x.feed(0, 0, 0, 0, 0);
        x.image();
        x.undo();
        int[] about = {1, 1, 33, 0, 89, 2, 0, 0, 1, 1, 1, 20};
        for (int i = 0; i < about.length; i++) due("about(" + i + ")", about[i], x.about(i));
        x.back();
        due("the image is behind the theft", -1, x.of(0, 3));
        due("steps", 1, x.about(7));
    }

    private static void decades() {
        Checks.at("DECADES by a SEED: X is SEED (0 .. 9999) * 2 + 89; n times (1 .. 30)");
        ThanksByPost x = city(2, 1, 10, 1);
        due("-1", -1, x.decades(-1, 1));
        due("10000", -1, x.decades(10000, 1));
        due("no times", -1, x.decades(5, 0));
        due("31 times", -1, x.decades(5, 31));
        due("x as at first", 89, x.about(4));
        due("no step", 0, x.about(7));
        due("the least seed", 1, x.decades(0, 1));
        due("x", 27772, x.about(4));
        // 20087 (mod 5: 2: not kept), 3782 and 22699 behind it.
        due("the greatest seed", 1, x.decades(9999, 1));
        due("x", behind(9999, 2), x.about(4));
        due("steps", 2, x.about(7));
        // 15521 (mod 5: 1: a theft) is followed by 0, which is followed by 197.
        due("a wrap to 0", 1, x.decades(7716, 1));
        due("the thing drawn by 0", -1, x.of(0, 3));
        due("x", 197, x.about(4));
        x.undo();
        due("thirty times", 30, drawnDays());
        ThanksByPost none = Cities.ownersAlone();
        due("without things", -1, none.decades(0, 1));
        due("x", 89, none.about(4));
        due("no step", 0, none.about(7));
    }

    /** Thirty times by a SEED, with X reckoned on the side: how many times were drawn. */
    private static int drawnDays() {
        ThanksByPost x = city(2, 1, 10, 1);
        x.decades(7716, 30);
        int draws = 0;
        for (int times = 1; times <= 31; times++) {
            draws += behind(7716, draws) % 5 == 3 ? 3 : 2;
            if (behind(7716, draws) == x.about(4)) return times;
        }
        return -1;
    }

    private static int behind(int seed, int draws) {
        long x = seed * 2 + 89;
        for (int i = 0; i < draws; i++) x = (x * 293 + 197) % 30319;
        return (int) x;
    }

    /** One draw in a city of a thing and two owners; SEED mod 5 says what is drawn: 3: 0, 1: 1, 4: 2, 2: 3, 0: 4. */
    private static void drawn(String what, int seed, boolean kept, int room, int with, int day) {
        ThanksByPost x = city(2, 1, 10, 5);
        if (kept) x.steal(0);
        x.room(room);
        due(what + ": day", day, x.decades(seed, 1));
        due(what + ": with whom", with, x.of(0, 3));
        due(what + ": a step", kept ? 2 : 1, x.about(7));
        due(what + ": x", behind(seed, seed % 5 == 2 ? 3 : 2), x.about(4));
    }

    private static void drawn() {
        Checks.at("0, 1: STOLEN, if it can be; 2: SENT, if KEPT; 3: GIVEN, if it can be; 4: a DAY");
        drawn("0", 3, false, 5, -1, 0);
        drawn("0, no room", 3, false, 4, 0, 0);
        drawn("0, kept", 3, true, 99, -1, 0);
        drawn("1", 1, false, 5, -1, 0);
        drawn("1, no room", 1, false, 4, 0, 0);
        drawn("1, kept", 1, true, 99, -1, 0);
        drawn("2, kept", 4, true, 5, 0, 0);
        drawn("2, not kept", 4, false, 5, 0, 0);
        drawn("3, the other one", 17, false, 5, 1, 0);
        drawn("3, with that one", 2, false, 5, 0, 0);
        drawn("3, kept", 17, true, 5, -1, 0);
        drawn("4", 0, false, 5, 0, 1);
        drawn("4, kept", 0, true, 5, -1, 1);
    }

    private static void drawnAway() {
        Checks.at("4: a DAY (if it can pass). It is one STEP: DAY");
        ThanksByPost x = Cities.late(9998);
        x.steal(0);
        due("the last day", 9999, x.decades(0, 1));
        due("dearer", 41, x.of(0, 0));
        due("none can pass", 9999, x.decades(0, 1));
        due("no dearer", 41, x.of(0, 0));
        due("x all the same", 27772, x.about(4));
        int steps = x.about(7);
        due("a step all the same", 30, steps);
        x.undo();
        due("taken back", 9999, x.about(3));
        x.undo();
        due("taken back", 9998, x.about(3));
        due("x at first", 89, x.about(4));
    }

    private static void ofOwner() {
        Checks.at("Of an OWNER: 0 LIVES, 1 PENCE, 2 THINGS with it (bits). -2000000 for others");
        ThanksByPost x = city(6, 8, 10, 1);
        due("all eight", 255, x.ofOwner(0, 2));
        for (int i = 7; i >= 0; i--) {
            x.give(i, 5);
            due("given to the last", 256 - (1 << i), x.ofOwner(5, 2));
            due("left with the first", (1 << i) - 1, x.ofOwner(0, 2));
        }
        x.steal(7);
        due("what is kept is with none", 127, x.ofOwner(5, 2));
        due("nor with any other", 0, x.ofOwner(4, 2));
        for (int owner : new int[] {-1, 6}) due("no such owner", -2000000, x.ofOwner(owner, 2));
        for (int what : new int[] {-1, 3}) due("no such what", -2000000, x.ofOwner(5, what));
    }

    private static void ofThing() {
        Checks.at("Of a THING: 3 with whom (NONE: KEPT), 4 since when it is KEPT (NONE), 5 FROM whom (NONE). -2 for others");
        ThanksByPost x = city(6, 8, 10, 9);
        x.give(7, 5);
        int[] free = {10, 9, 0, 5, -1, -1};
        for (int what = 0; what < 6; what++) due("not kept, " + what, free[what], x.of(7, what));
        x.steal(7);
        int[] kept = {10, 9, 0, -1, 0, 5};
        for (int what = 0; what < 6; what++) due("kept, " + what, kept[what], x.of(7, what));
        x.day(9);
        int[] back = {19, 9, 0, 5, -1, -1};
        for (int what = 0; what < 6; what++) due("back, " + what, back[what], x.of(7, what));
        for (int thing : new int[] {-1, 8}) due("no such thing", -2, x.of(thing, 0));
        for (int what : new int[] {-1, 6}) due("no such what", -2, x.of(7, what));
    }

    private static void lawOf() {
        Checks.at("Of a KEPT THING as now. -100000 for others, and if it isn't KEPT");
        ThanksByPost x = city(2, 2, 10, 1);
        for (int what = -1; what <= 4; what++) due("not kept", -100000, x.law(0, what));
        x.steal(0);
        int[] laws = {1, 9, 0, 10};
        for (int what = 0; what < 4; what++) due("kept", laws[what], x.law(0, what));
        for (int what : new int[] {-1, 4}) due("no such what", -100000, x.law(0, what));
        for (int thing : new int[] {-1, 1, 2}) due("not kept, or none such", -100000, x.law(thing, 0));
        Checks.rule(x, "dears day+kept;after dear;to kept;brings pence+kept*100;");
        x.day(3);
        int[] now = {6, x.of(0, 0), 1, 300};
        for (int what = 0; what < 4; what++) due("as now", now[what], x.law(0, what));
        x.send(0);
        for (int what = 0; what < 4; what++) due("back", -100000, x.law(0, what));
        Checks.at("brings: pence of the one to whom it comes; as now");
        x = city(3, 1, 10, 1);
        Checks.rule(x, "to bulk+kept;brings pence+100;");
        x.steal(0);
        x.send(0);
        x.steal(0);
        due("to", 1, x.law(0, 2));
        due("of that one", 200, x.law(0, 3));
        x.day(1);
        due("to another one now", 2, x.law(0, 2));
        due("of that one", 100, x.law(0, 3));
    }
}
