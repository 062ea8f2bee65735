/** Promises 10 to 15: the tape, texts, their faults, what rules and what is played. */
public final class TextTest {
    private static void due(String call, long want, long got) {
        Checks.due(call, want, got);
    }

    public static void main(String[] args) {
        promise10();
        promise11();
        promise12();
        promise13();
        faults();
        depths();
        signs();
        promise14();
        reckoning();
        asking();
        promise15();
        playedDays();
        Checks.end();
    }

    private static void promise10() {
        Checks.at("promise 10");
        ThanksByPost x = new ThanksByPost();
        for (int i = 1; i <= 15; i++) due("feed", 20 * i, x.feed(i, -1, 0, 7, Integer.MIN_VALUE));
        due("no more than 300", -1, x.feed(1, 2, 3, 4, 5));
        due("none came", 300, x.about(11));
        x.end(281);
        due("one too many", -1, x.feed(1, 2, 3, 4, 5));
        due("none came", 281, x.about(11));
        x.end(280);
        due("just room", 300, x.feed(1, 2, 3, 4, 5));
        // The highest byte of a comes first, the lowest of e last.
        x = new ThanksByPost();
        x.feed('d' << 24 | 'a' << 16 | 'y' << 8 | ' ', 0x20202020, 0x20202020, 0x20202020, '3' << 8 | ';');
        x.end(20);
        x.text();
        due("a byte 0 is no blank", 16, x.fault(1));
        x.feed('d' << 24 | 'a' << 16 | 'y' << 8 | ' ', 0x20202020, 0x20202020, 0x20202020, 0x20203000 | '3' << 8 | ';');
        due("day 03;", 0, x.text());
        due("played", -1, x.played(0));
        due("three days", 3, x.about(3));
        x.feed(0xe9202020, 0, 0, 0, 0);
        x.text();
        due("bytes above 127", 0, x.fault(1));
    }

    private static void promise11() {
        Checks.at("promise 11");
        ThanksByPost x = new ThanksByPost();
        due("end(0)", 0, x.end(0));
        due("not so many", -1, x.end(1));
        due("below 0", -1, x.end(-1));
        due("far below", -1, x.end(Integer.MIN_VALUE));
        x.feed(0x64617920, 0x31323b20, 0x40404040, 0x40404040, 0x40404040);
        due("end(21)", -1, x.end(21));
        due("end(MAX)", -1, x.end(Integer.MAX_VALUE));
        due("nothing is done", 20, x.about(11));
        due("end(20)", 20, x.end(20));
        due("end(7)", 7, x.end(7));
        due("nothing behind it", -1, x.end(8));
        due("the first bytes are a text", 0, x.text());
        x.played(0);
        due("day 12;", 12, x.about(3));
    }

    private static void promise12() {
        Checks.at("promise 12");
        ThanksByPost x = new ThanksByPost();
        due("none of it is a text", 0, x.text());
        due("its fault", 0, x.fault(0));
        due("one", 1, Checks.text(x, "dears 1;"));
        due("the tape is empty", 0, x.about(11));
        due("a fault", -1, Checks.text(x, "dears ;"));
        due("the tape is empty", 0, x.about(11));
        due("texts", 2, x.about(5));
        due("two", 2, Checks.text(x, "  \n day 1 ;\n"));
        due("three", 3, Checks.text(x, "to 0;" + " ".repeat(295)));
        due("a fifth", -1, Checks.text(x, "dears ;"));
        due("the tape stays", 7, x.about(11));
        due("it was not read", 0, x.fault(0));
        due("texts", 4, x.about(5));
        due("the four laws", 0, Checks.text(new ThanksByPost(), "brings 4;to 3;after 2;dears 1;"));
        due("twenty-four", 0, Checks.text(new ThanksByPost(), "day 1;".repeat(24)));
        due("300 bytes", 0, Checks.text(new ThanksByPost(), "dears 1" + "+1".repeat(146) + ";"));
    }

    private static void promise13() {
        Checks.at("promise 13");
        ThanksByPost x = new ThanksByPost();
        due("ahead of any", -1, x.fault(0));
        due("ahead of any", -1, x.fault(1));
        Checks.text(x, "day 61;");
        due("fault", 2, x.fault(0));
        due("place", 4, x.fault(1));
        due("fault(2)", -1, x.fault(2));
        due("fault(-1)", -1, x.fault(-1));
        due("fault(MAX)", -1, x.fault(Integer.MAX_VALUE));
        Checks.text(x, "day 60;");
        due("without", 0, x.fault(0));
        due("without", -1, x.fault(1));
        x.feed(0, 0, 0, 0, 0);
        due("the tape changes nothing", 0, x.fault(0));
        faultsLeaveNothing();
    }

    private static void faultsLeaveNothing() {
        ThanksByPost x = new ThanksByPost();
        String sum = "1+1" + "+1".repeat(140);
        for (int i = 0; i < 4; i++) due("fault", -1, Checks.text(x, "owner 1;to " + sum + ";;"));
        due("read behind faults", 0, Checks.text(x, "owner 5;thing 1 of 0 bulk 1;steal 0;dears " + sum.substring(0, 199) + ";"));
        due("no clause of a text with a fault is done", -1, x.played(0));
        due("owners", 1, x.about(0));
        x.by(0);
        due("its law", 99, x.law(0, 0));
        due("no law of a text with a fault", 0, x.law(0, 2));
        due("read behind", 1, Checks.text(x, "brings 0" + "+1-3".repeat(60) + ";"));
        x.by(1);
        due("its law", -120, x.law(0, 3));
    }

    private static void fault(String text, int number, int place) {
        ThanksByPost x = new ThanksByPost();
        due("text " + text, number == 0 ? 0 : -1, Checks.text(x, text));
        due("fault of " + text, number, x.fault(0));
        due("place in " + text, place, x.fault(1));
    }

    private static void faults() {
        Checks.at("faults");
        fault("dears", 1, 5);
        fault("dears  ", 1, 7);
        fault("dears 1", 1, 7);
        fault("dears 1 ;;", 1, 9);
        fault("Dears 1;", 1, 0);
        fault("dear 1;", 1, 0);
        fault(" kept;", 1, 1);
        fault("5;", 1, 0);
        fault(";", 1, 0);
        fault("dears 1 2;", 1, 8);
        fault("dears 1 kept;", 1, 8);
        fault("dears 1 thing;", 1, 8);
        fault("dears 1 10000;", 1, 8);
        fault("dears (1;", 1, 8);
        fault("dears 1);", 1, 7);
        fault("dears ();", 1, 7);
        fault("dears +1;", 1, 6);
        fault("dears 1+*2;", 1, 8);
        fault("dears room;", 1, 6);
        fault("dears not 1<2;", 1, 6);
        fault("dears a;", 1, 6);
        fault("dears 1@;", 1, 7);
        fault("dears 1\t;", 1, 7);
        fault("dears if (1<2) then 1 else 2 end;", 1, 11);
        fault("dears if 1<2<3 then 1 else 2 end;", 1, 12);
        fault("dears if 1<2 and then 1 else 2 end;", 1, 17);
        fault("dears if 1<2 then 1 else 2;", 1, 26);
        fault("dears if 1 then 2 else 3 end;", 1, 11);
        fault("dears if 1<2 or kept then 2 else 3 end;", 1, 21);
        fault("dears if 1 =< 2 then 1 else 2 end;", 1, 12);
        fault("dears if 1 < = 2 then 1 else 2 end;", 1, 13);
        fault("dears left 5 3;", 1, 13);
        fault("owner;", 1, 5);
        fault("owner kept;", 1, 6);
        fault("owner 1", 1, 7);
        fault("owner 1+1;", 1, 7);
        fault("give 1 of 2;", 1, 7);
        fault("give 1 to kept;", 1, 10);
        fault("thing 5 of 5 bulk;", 1, 17);
        fault("thing -5 of 5 bulk 1;", 1, 6);
        numbers();
        names();
        clauses();
    }

    private static void numbers() {
        fault("dears 9999;", 0, -1);
        fault("dears 00009999;", 0, -1);
        fault("dears 10000;", 2, 6);
        fault("dears 99999999999999999999;", 2, 6);
        fault("dears 1+(2*10000);", 2, 11);
        fault("owner 10;", 0, -1);
        fault("owner 11;", 2, 6);
        fault("thing 99 of 5 bulk 9;", 0, -1);
        fault("thing 100 of 5 bulk 9;", 2, 6);
        fault("thing 99 of 6 bulk 9;", 2, 12);
        fault("thing 99 of 5 bulk 10;", 2, 19);
        fault("thing 99 of 5 bulk 0;", 2, 19);
        fault("room 99;", 0, -1);
        fault("room 100;", 2, 5);
        fault("steal 7;", 0, -1);
        fault("steal 8;", 2, 6);
        fault("send 7;", 0, -1);
        fault("send 8;", 2, 5);
        fault("give 7 to 5;", 0, -1);
        fault("give 8 to 5;", 2, 5);
        fault("give 7 to 6;", 2, 10);
        fault("day 1;", 0, -1);
        fault("day 0;", 2, 4);
        fault("day 60;", 0, -1);
        fault("day 61;", 2, 4);
        fault("day 10000;", 2, 4);
    }

    private static void names() {
        for (String name : new String[] {"day", "kept", "dear", "bulk", "owner", "from"}) {
            for (String law : new String[] {"dears ", "after ", "to ", "brings "}) fault(law + name + ";", 0, -1);
        }
        fault("dears thing;", 5, 6);
        fault("after 1+thing;", 5, 8);
        fault("to thing;", 0, -1);
        fault("brings thing;", 0, -1);
        fault("dears pence;", 5, 6);
        fault("after pence;", 5, 6);
        fault("to (pence);", 5, 4);
        fault("brings pence;", 0, -1);
        fault("to thing;dears if thing<1 then 1 else 2 end;", 5, 18);
        fault("dears DAY;", 1, 6);
    }

    private static void clauses() {
        for (String law : new String[] {"dears", "after", "to", "brings"}) {
            fault(law + " 1;" + law + " 1;", 4, law.length() + 3);
            fault(law + " 1;day 1;" + law, 4, law.length() + 9);
        }
        String full = "day 1;".repeat(24);
        fault(full + " ", 0, -1);
        fault(full + " owner", 6, 145);
        fault(full + " dears 1;", 6, 145);
        fault(full + " 5;", 1, 145);
        fault(full + "?", 1, 144);
        fault("dears 1;" + "day 1;".repeat(23) + "dears", 4, 146);
        fault("dears 1;" + "day 1;".repeat(23) + "after", 6, 146);
    }

    private static void depths() {
        Checks.at("depths");
        fault("dears " + "(".repeat(8) + "1" + ")".repeat(8) + ";", 0, -1);
        fault("dears " + "(".repeat(9) + "1" + ")".repeat(9) + ";", 3, 14);
        fault("dears " + "-".repeat(8) + "1;", 0, -1);
        fault("dears " + "-".repeat(9) + "1;", 3, 14);
        fault("dears " + "left ".repeat(8) + "1" + " of 1".repeat(8) + ";", 0, -1);
        fault("dears " + "left ".repeat(9) + "1" + " of 1".repeat(9) + ";", 3, 46);
        fault("dears left 1 of " + "-".repeat(7) + "1;", 0, -1);
        fault("dears left 1 of " + "-".repeat(8) + "1;", 3, 23);
        fault("dears if " + "not ".repeat(7) + "1<2 then 1 else 2 end;", 0, -1);
        fault("dears if " + "not ".repeat(8) + "1<2 then 1 else 2 end;", 3, 37);
        fault("dears if 1<2 then " + "(".repeat(8) + "1", 3, 25);
        fault("dears if 1<2 then 1 else " + "(".repeat(8) + "1", 3, 32);
        // What is closed is open no more, and what joins two opens nothing.
        fault("dears " + "(1)+".repeat(20) + "1;", 0, -1);
        fault("dears -1" + "--1".repeat(30) + ";", 0, -1);
        fault("dears 1" + "-1".repeat(30) + ";", 0, -1);
        fault("dears left 1 of 2" + "*left 1 of 2".repeat(9) + ";", 0, -1);
        fault("dears if not 1<2" + " and not 1<2".repeat(9) + " then 1 else 2 end;", 0, -1);
        fault("dears if 1<2 then 1 else 2 end" + "+if 1<2 then 1 else 2 end".repeat(9) + ";", 0, -1);
        // It can't stand there: the least fault.
        fault("dears " + "(".repeat(8) + "1(", 1, 15);
        fault("dears " + "(".repeat(8) + "not", 1, 14);
        fault("dears " + "(".repeat(8) + "if", 3, 14);
        fault("dears " + "(".repeat(8) + "left", 3, 14);
    }

    private static void signs() {
        Checks.at("signs");
        fault("dears\n1\n;\n", 0, -1);
        fault("dears1;", 0, -1);
        fault("dears1after;", 1, 6);
        fault("dears 1;after2;to(3);", 0, -1);
        fault("dearsafter 1;", 1, 0);
        fault("thing5of5bulk5;give5to5;", 0, -1);
        fault("dears if 1<=2then 3else 4end;", 0, -1);
        fault("dears if 1>=2 or 1#2 or 1=2 or 1>2 then 3 else 4 end;", 0, -1);
        fault("dears if 1<>2 then 3 else 4 end;", 1, 11);
        fault(";".repeat(300), 1, 0);
        fault("dears dayz;", 1, 6);
        fault("dears dayZ;", 1, 6);
        fault("dears dayA;", 1, 6);
        fault("dears aday;", 1, 6);
        fault("dears Aday;", 1, 6);
        fault("dears 5a;", 1, 7);
        fault("dears [;", 1, 6);
        fault("dears {day;", 1, 6);
        fault("dears `day;", 1, 6);
        fault("dears 5:;", 1, 7);
        fault("owner 0;thing 0 of 0 bulk 1;room 0;steal 0;send 0;give 0 to 0;", 0, -1);
        fault("dears if 1>==2 then 3 else 4 end;", 1, 12);
    }

    private static void promise14() {
        Checks.at("promise 14");
        ThanksByPost x = new ThanksByPost();
        Checks.no("by(0)", x.by(0));
        Checks.yes("by(-1)", x.by(-1));
        Checks.no("by(-2)", x.by(-2));
        Checks.text(x, "dears 7;");
        Checks.text(x, "after 2;");
        Checks.yes("by(0)", x.by(0));
        due("rules", 0, x.about(6));
        Checks.yes("by(1)", x.by(1));
        Checks.no("by(2)", x.by(2));
        Checks.no("by(MAX)", x.by(Integer.MAX_VALUE));
        due("rules still", 1, x.about(6));
        x.owner(1);
        x.thing(1, 0, 1);
        x.steal(0);
        due("dears without", 1, x.law(0, 0));
        due("after", 2, x.law(0, 1));
        x.by(0);
        due("dears", 7, x.law(0, 0));
        due("after without", 9, x.law(0, 1));
        x.by(-1);
        due("none", -1, x.about(6));
        due("dears without", 1, x.law(0, 0));
        due("it is no step", 1, x.about(7));
    }

    /** What a sum comes to: as what a thing brings, two owners and a third of a day being there. */
    private static void brings(String sum, int want) {
        ThanksByPost x = new ThanksByPost();
        x.owner(1);
        x.owner(1);
        x.thing(50, 0, 4);
        x.thing(60, 1, 6);
        x.room(30);
        x.day(7);
        x.give(1, 0);
        x.steal(1);
        x.day(3);
        Checks.rule(x, "to from;brings " + sum + ";");
        due(sum, want, x.law(1, 3));
    }

    private static void reckoning() {
        Checks.at("reckoning");
        brings("day*1000+kept*100+thing*10+from", 9999);
        brings("day*100+kept*10+thing", 1031);
        brings("dear*100+bulk*10+owner", 6361);
        brings("from+pence", 0);
        brings("2+3*4", 14);
        brings("(2+3)*4", 20);
        brings("20-5-3", 12);
        brings("100/7/2", 7);
        brings("100/7*7", 98);
        brings("-7/2", -3);
        brings("7/-2", -3);
        brings("-7/-2", 3);
        brings("7/0", 0);
        brings("5+7/(3-3)", 5);
        brings("-3-4", -7);
        brings("3--4", 7);
        brings("-(3+4)*2", -14);
        brings("left 17 of 5", 2);
        brings("left -17 of 5", 3);
        brings("left 17 of -5", 2);
        brings("left (0-17) of (0-5)", 3);
        brings("left 17 of 0", 0);
        brings("left 15 of 5", 0);
        brings("left -15 of 5", 0);
        brings("left 17 of 5*2", 4);
        brings("left left 17 of 10 of 4", 3);
        brings("9999*9999/1000", 1000);
        brings("9999*9999+9999*9999-9999*100-99", 1);
        brings("-9999*9999/1000", -1000);
        brings("(9999*101-9999)/9999", 99);
        brings("9999*101-9999*101", 0);
        brings("0-9999*9999-9999*9999+9999*100+99", -1);
        brings("9999*9999-9999*99", 9999);
        brings("9999*9999*-1/1000", -1000);
    }

    private static void asking() {
        Checks.at("asking");
        String[] signs = {"<", "<=", ">", ">=", "=", "#"};
        int[][] true2 = {{1, 0, 0}, {1, 1, 0}, {0, 0, 1}, {0, 1, 1}, {0, 1, 0}, {1, 0, 1}};
        for (int s = 0; s < 6; s++) {
            for (int a = 1; a <= 3; a++) {
                brings("if " + a + signs[s] + "2 then 1 else 0 end", true2[s][a - 1]);
                brings("if not " + a + signs[s] + "2 then 1 else 0 end", 1 - true2[s][a - 1]);
            }
        }
        String yes = "1=1";
        String no = "1=2";
        String[] asks = {no, yes};
        for (int i = 0; i < 8; i++) {
            String a = asks[i >> 2];
            String b = asks[i >> 1 & 1];
            String c = asks[i & 1];
            int both = i >> 2 | i >> 1 & i & 1;
            brings("if " + a + " or " + b + " and " + c + " then 1 else 0 end", both);
            int first = (i >> 2 & i >> 1 | i) & 1;
            brings("if " + a + " and " + b + " or " + c + " then 1 else 0 end", first);
            int not = (1 - (i >> 2)) & i >> 1 & 1;
            brings("if not " + a + " and " + b + " then 1 else 0 end", not);
        }
        brings("if not not " + yes + " then 1 else 0 end", 1);
        brings("if if 1<2 then 3 else 4 end = 3 then if 1>2 then 5 else 6 end else 7 end + 10", 16);
        brings("2*if 1>2 then 5 else 6 + 1 end*3", 42);
        brings("left if 1<2 then 17 else 0 end of if 1>2 then 0 else 5 end", 2);
        brings("if 1+2*3=7 then 8/2 else 9/0 end", 4);
    }

    private static void promise15() {
        Checks.at("promise 15");
        ThanksByPost x = new ThanksByPost();
        due("played(0)", -2, x.played(0));
        due("played(-1)", -2, x.played(-1));
        Checks.text(x, "dears 5;owner 3;owner 8;thing 70 of 0 bulk 2;room 4;after 1;thing 20 of 1 bulk 2;steal 0;"
            + "give 1 to 0;steal 1;day 2;send 0;send 0;day 60;");
        due("played(1)", -2, x.played(1));
        due("played(MAX)", -2, x.played(Integer.MAX_VALUE));
        due("laws are numbered too", 12, x.played(0));
        due("laws don't rule by it", -1, x.about(6));
        due("owners", 2, x.about(0));
        due("things", 2, x.about(1));
        due("room", 4, x.about(2));
        due("days", 2, x.about(3));
        due("dear", 72, x.of(0, 0));
        due("from", 0, x.of(1, 5));
        due("steps as by hand", 6, x.about(7));
        due("undo", 5, x.undo());
        due("again: a third and a fourth owner, two things, and it is kept", 7, x.played(0));
        due("owners", 4, x.about(0));
        due("things", 4, x.about(1));
        due("done", 0, Checks.text(new ThanksByPost(), ""));
        cannot("owner 1;owner 1;owner 1;owner 1;owner 1;owner 1;owner 1;", 6);
        cannot("owner 1;" + "thing 1 of 0 bulk 1;".repeat(9), 9);
        cannot("owner 1;thing 1 of 1 bulk 1;", 1);
        cannot("room 0;owner 1;thing 1 of 0 bulk 1;steal 0;", 3);
        cannot("owner 1;thing 1 of 0 bulk 1;steal 1;", 2);
        cannot("owner 1;thing 1 of 0 bulk 1;send 0;", 2);
        cannot("owner 1;thing 1 of 0 bulk 1;give 0 to 0;", 2);
        cannot("owner 1;thing 1 of 0 bulk 1;give 0 to 1;", 2);
        cannot("owner 1;owner 1;thing 1 of 0 bulk 1;give 0 to 1;steal 0;send 0;dears 1;", -1);
        cannot("dears 1;after 1;to 1;brings 1;", -1);
        cannot("", -1);
    }

    private static void cannot(String text, int clause) {
        ThanksByPost x = new ThanksByPost();
        due("text " + text, 0, Checks.text(x, text));
        due("played " + text, clause, x.played(0));
    }

    private static void playedDays() {
        Checks.at("promise 15, days");
        ThanksByPost x = new ThanksByPost();
        Checks.text(x, "day 60;".repeat(24));
        for (int i = 0; i < 6; i++) due("all of them", -1, x.played(0));
        due("day", 8640, x.about(3));
        due("those that can", 22, x.played(0));
        due("day", 9999, x.about(3));
        due("steps", 30, x.about(7));
        x.undo();
        due("undo", 9998, x.about(3));
        Checks.text(x, "day 1;day 1;");
        due("one, and no more", 1, x.played(1));
    }
}
