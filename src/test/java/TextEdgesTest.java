import java.util.ArrayList;
import java.util.List;

/** Part II of the terms and promises 10 to 15, sentence by sentence: texts at their bounds. */
public final class TextEdgesTest {
    private static void due(String call, long want, long got) {
        Checks.due(call, want, got);
    }

    public static void main(String[] args) {
        bytesInTheirOrder();
        noMoreThan300();
        firstBytesAlone();
        upTo300();
        fourTexts();
        theLatestThatWasRead();
        blanks();
        oneByte();
        behindANumber();
        behindAName();
        theLongest();
        numbers();
        numbersTold();
        clauses();
        eachLawOnce();
        cutShort();
        spoilt();
        joining();
        theLeastFault();
        theFirstFault();
        namesOfTheClause();
        openAroundOneAnother();
        closedAgain();
        lawBounds();
        withoutLaws();
        aMillionAtEachStep();
        cutTowardsZero();
        left();
        asks();
        sumsAndOnes();
        names();
        played();
        playedDays();
        ruling();
        Checks.end();
    }

    private static void fault(String text, int number, int place) {
        ThanksByPost x = new ThanksByPost();
        String shown = text.replace('\n', '~');
        due("text of " + shown, number == 0 ? 0 : -1, Checks.text(x, text));
        due("fault of " + shown, number, x.fault(0));
        due("place in " + shown, place, x.fault(1));
        due("texts behind " + shown, number == 0 ? 1 : 0, x.about(5));
        due("tape behind " + shown, 0, x.about(11));
    }

    private static void good(String text) {
        fault(text, 0, -1);
    }

    // ---- the tape

    private static void bytesInTheirOrder() {
        Checks.at("Twenty bytes come behind the tape, the highest of a first");
        for (int spoilt : new int[] {'@', 255, 128, 0}) {
            for (int i = 0; i < 40; i++) {
                StringBuilder blanks = new StringBuilder(" ".repeat(40));
                blanks.setCharAt(i, (char) spoilt);
                fault(blanks.toString(), 1, i);
            }
        }
        ThanksByPost x = new ThanksByPost();
        due("fed", 20, x.feed(-1, -1, -1, -1, -1));
        due("text", -1, x.text());
        due("bytes 255", 0, x.fault(1));
    }

    private static void noMoreThan300() {
        Checks.at("NONE, and none come, if there would be more than 300");
        for (int length = 0; length <= 300; length += length < 260 ? 13 : 1) {
            ThanksByPost x = new ThanksByPost();
            for (int i = 0; i < 15; i++) x.feed(0x20202020, 0x20202020, 0x20202020, 0x20202020, 0x20202020);
            x.end(length);
            boolean room = length <= 280;
            due("feed behind " + length, room ? length + 20 : -1, x.feed(0x40404040, 0, 0, 0, 0));
            due("bytes", room ? length + 20 : length, x.about(11));
            due("text", room ? -1 : 0, x.text());
            due("place", room ? length : -1, x.fault(1));
        }
    }

    private static void firstBytesAlone() {
        Checks.at("The tape has its first n bytes alone: n. NONE, and nothing is done, if it has not so many, or n is below 0");
        ThanksByPost x = new ThanksByPost();
        due("empty to 0", 0, x.end(0));
        due("empty to 1", -1, x.end(1));
        Checks.put(x, "day 1;day 2;day 4;@@");
        due("not 21", -1, x.end(21));
        due("not -1", -1, x.end(-1));
        due("as many as before", 20, x.about(11));
        due("all twenty", 20, x.end(20));
        due("nineteen", 19, x.end(19));
        due("not twenty any more", -1, x.end(20));
        due("eighteen", 18, x.end(18));
        due("twelve", 12, x.end(12));
        due("behind them", 32, x.feed('d' << 24 | 'a' << 16 | 'y' << 8 | ' ', '8' << 24 | ';' << 16 | ' ' << 8 | ' ',
            0x20202020, 0x20202020, 0x20202020));
        due("text", 0, x.text());
        x.played(0);
        due("1, 2 and 8 days", 11, x.about(3));
        due("the tape is empty", -1, x.end(1));
        Checks.put(x, "@@@@");
        due("none of them", 0, x.end(0));
        due("an empty text", 1, x.text());
    }

    private static void upTo300() {
        Checks.at("TEXTS: of up to 300 bytes");
        String sum = "dears 1" + "+1".repeat(146);
        due("bytes", 299, sum.length());
        good(sum + ";");
        fault(sum, 1, 299);
        fault(sum + "+", 1, 300);
        fault(sum + "@", 1, 299);
        fault(sum + " ", 1, 300);
        good("dears 1;" + " ".repeat(292));
        good(" ".repeat(300));
        good("\n".repeat(300));
        good(" ".repeat(292) + "dears 1;");
        fault(" ".repeat(293) + "dears 1", 1, 300);
        fault("a".repeat(300), 1, 0);
        fault(" ".repeat(299) + "@", 1, 299);
        fault("\n".repeat(299) + "5", 1, 299);
        fault(";".repeat(300), 1, 0);
        fault(";1".repeat(150), 1, 0);
        fault("1;".repeat(150), 1, 0);
        fault("dears " + "(".repeat(294), 3, 14);
        fault("dears " + "-".repeat(294), 3, 14);
        fault("dears" + "(1)+".repeat(73) + "(1)", 1, 300);
        good("to" + "(1)*".repeat(73) + "(10);");
        fault("dears " + "9".repeat(294), 2, 6);
        good("dears " + "0".repeat(292) + "1;");
        fault("dears" + " ".repeat(295), 1, 300);
        ThanksByPost x = Cities.two();
        x.steal(0);
        Checks.rule(x, "brings 1" + "+1".repeat(145) + ";");
        due("all of a long sum", 146, x.law(0, 3));
        Checks.rule(x, "brings " + "(1)".repeat(1) + "+(1)".repeat(72) + ";");
        due("all of one in brackets", 73, x.law(0, 3));
        Checks.rule(x, "brings 1" + "-1".repeat(145) + ";");
        due("from the left", -144, x.law(0, 3));
    }

    private static void fourTexts() {
        Checks.at("NONE: (the tape stays) there are 4");
        ThanksByPost x = Cities.two();
        x.image();
        for (int i = 0; i < 4; i++) {
            due("a fault is no text", -1, Checks.text(x, "dears"));
            due("the tape is empty", 0, x.about(11));
            due("text " + i, i, Checks.text(x, "dears " + (10 + i) + ";"));
            due("texts", i + 1, x.about(5));
        }
        Checks.put(x, "dears 77;");
        due("a fifth", -1, x.text());
        due("the tape stays", 9, x.about(11));
        due("again", -1, x.text());
        due("the tape stays", 9, x.about(11));
        Checks.put(x, "");
        due("not even an empty one", -1, x.text());
        Checks.put(x, "dears 78;");
        x.back();
        due("the tape is as it was", 9, x.about(11));
        due("where texts are gone it is read", 0, x.text());
        x.steal(0);
        x.by(0);
        due("as it stayed", 78, x.law(0, 0));
    }

    private static void theLatestThatWasRead() {
        Checks.at("Of the latest text that was read: its FAULT (0 without), its place (NONE without). NONE ahead of any");
        ThanksByPost x = new ThanksByPost();
        for (int what = -1; what <= 2; what++) due("ahead of any", -1, x.fault(what));
        x.feed(0, 0, 0, 0, 0);
        due("fed is not read", -1, x.fault(0));
        Checks.text(x, "dears 1 ");
        due("fault", 1, x.fault(0));
        due("place", 8, x.fault(1));
        due("fault(2)", -1, x.fault(2));
        due("fault(-1)", -1, x.fault(-1));
        Checks.text(x, "");
        due("without", 0, x.fault(0));
        due("without", -1, x.fault(1));
        Checks.text(x, "@");
        due("at place 0", 0, x.fault(1));
        Checks.text(x, "room 5;");
        x.image();
        due("a third", 2, Checks.text(x, "room 5;"));
        Checks.text(x, "  dears 10000;");
        due("fault", 2, x.fault(0));
        due("place", 8, x.fault(1));
        Checks.text(x, "room 5");
        due("place", 6, x.fault(1));
        x.back();
        due("the latest fault is not gone back", 1, x.fault(0));
        due("the latest fault is not gone back", 6, x.fault(1));
        Checks.text(x, "room 5;");
        Checks.text(x, "@");
        due("a fourth", 3, Checks.text(x, "room 5;"));
        Checks.put(x, "@@@");
        x.text();
        due("with four one is not read", 0, x.fault(0));
        due("with four one is not read", -1, x.fault(1));
    }

    // ---- tokens

    private static void blanks() {
        Checks.at("TOKENS, blanks (32, 10) aside");
        good(" \n dears\n\n 1 \n;\n ");
        good("dears\n1;room\n5;");
        for (int c = 0; c < 256; c++) {
            boolean letter = c >= 'a' && c <= 'z' || c >= 'A' && c <= 'Z';
            if (c == 32 || c == 10) good("dears" + (char) c + "1;");
            else if (letter) fault("dears" + (char) c + "1;", 1, 0);
            else if (c >= '0' && c <= '9') good("dears" + (char) c + "1;");
            else if (c == '(') fault("dears(1;", 1, 7);
            else if (c == '-') good("dears-1;");
            else fault("dears" + (char) c + "1;", 1, 5);
        }
        fault("da y;", 1, 0);
        fault("dears 1 0;", 1, 8);
        fault("room 1 0;", 1, 7);
    }

    private static void oneByte() {
        Checks.at("1 it can't stand there, or is none");
        for (int c = 0; c < 256; c++) {
            if (c == 32 || c == 10) good("" + (char) c);
            else fault("" + (char) c, 1, 0);
        }
    }

    private static void behindANumber() {
        Checks.at("digits one behind the other (NUMBERS)");
        for (int c = 0; c < 256; c++) {
            String text = "dears 1" + (char) c;
            if (c == ';') good(text);
            else if (c >= '0' && c <= '9' || c == ' ' || c == '\n' || "+-*/".indexOf(c) >= 0) fault(text, 1, 8);
            else fault(text, 1, 7);
        }
    }

    private static void behindAName() {
        Checks.at("letters a .. z, A .. Z one behind the other (one TOKEN)");
        for (int c = 0; c < 256; c++) {
            String text = "dears day" + (char) c;
            if (c == ';') good(text);
            else if (c >= 'a' && c <= 'z' || c >= 'A' && c <= 'Z') fault(text, 1, 6);
            else if (c == ' ' || c == '\n' || "+-*/".indexOf(c) >= 0) fault(text, 1, 10);
            else fault(text, 1, 9);
        }
        for (String word : new String[] {"Day", "DAY", "daY", "dey", "da", "dayday", "kep", "keptt", "fro", "pences", "ownerr"}) {
            fault("brings " + word + ";", 1, 7);
        }
        for (String word : new String[] {"Dears", "dear", "afte", "afters", "too", "t", "bring", "rooms", "stea",
            "sends", "gives", "dayz", "owners", "things", "of", "bulk", "kept", "from", "pence", "if", "not", "left", "end"}) {
            fault(word + " 1;", 1, 0);
        }
    }

    private static void theLongest() {
        Checks.at("<= >= < > = # + - * / ( ) ; (the longest)");
        String[] signs = {"<", "<=", ">", ">=", "=", "#"};
        for (String sign : signs) {
            good("dears if 1" + sign + "2 then 3 else 4 end;");
            fault("dears if 1" + sign, 1, 10 + sign.length());
            fault("dears if 1" + sign + "2" + sign + "3 then", 1, 11 + sign.length());
        }
        fault("dears if 1< =2 then 3 else 4 end;", 1, 12);
        fault("dears if 1> =2 then 3 else 4 end;", 1, 12);
        fault("dears if 1<==2 then 3 else 4 end;", 1, 12);
        fault("dears if 1>==2 then 3 else 4 end;", 1, 12);
        fault("dears if 1=<2 then 3 else 4 end;", 1, 11);
        fault("dears if 1=>2 then 3 else 4 end;", 1, 11);
        fault("dears if 1==2 then 3 else 4 end;", 1, 11);
        fault("dears if 1<<2 then 3 else 4 end;", 1, 11);
        fault("dears if 1>>2 then 3 else 4 end;", 1, 11);
        fault("dears if 1<>2 then 3 else 4 end;", 1, 11);
        fault("dears if 1#=2 then 3 else 4 end;", 1, 11);
        good("dears if 1<-2 then 3 else 4 end;");
        good("dears 1+-2;");
        good("dears 1--2;");
        fault("dears 1++2;", 1, 8);
        fault("dears 1-+2;", 1, 8);
        fault("dears 1**2;", 1, 8);
        fault("dears 1//2;", 1, 8);
    }

    private static void numbers() {
        Checks.at("NUMBERS, 0 .. 9999; FAULT 2: above 9999");
        for (String n : new String[] {"0", "9999", "00000", "09999", "000000000000000000009999"}) good("brings " + n + ";");
        for (String n : new String[] {"10000", "10001", "99999", "010000", "65536", "2147483647", "2147483648", "4294967295",
            "4294967296", "4294967297", "9223372036854775808", "18446744073709551616", "18446744073709551617"}) {
            fault("brings " + n + ";", 2, 7);
            fault("brings 1+(" + n + ");", 2, 10);
            fault("brings if 1<" + n + " then", 2, 12);
            for (String deed : new String[] {"owner", "room", "steal", "send", "give", "day", "thing"}) {
                fault(deed + " " + n + ";", 2, deed.length() + 1);
            }
        }
        ThanksByPost x = Cities.two();
        x.steal(0);
        Checks.rule(x, "brings 9999;after 0009;");
        due("9999", 9999, x.law(0, 3));
        due("0009", 9, x.law(0, 1));
    }

    /** A deed's numbers one by one: the last that may stand on either side, and the first that may not. */
    private static void told(String ahead, int least, int most, String behind) {
        for (int n : new int[] {least, least + 1, most - 1, most}) good(ahead + n + behind);
        if (least > 0) fault(ahead + (least - 1) + behind, 2, ahead.length());
        fault(ahead + (most + 1) + behind, 2, ahead.length());
        fault(ahead + "9999" + behind, 2, ahead.length());
        fault(ahead + "-1" + behind, 1, ahead.length());
        fault(ahead + "day" + behind, 1, ahead.length());
        fault(ahead + behind, 1, ahead.length() + (behind.startsWith(" ") ? 1 : 0));
    }

    private static void numbersTold() {
        Checks.at("2 (LIVES 0 .. 10, DEAR, ROOM 0 .. 99, BULK 1 .. 9, OWNERS 0 .. 5, THINGS 0 .. 7, DAYS 1 .. 60)");
        told("owner ", 0, 10, ";");
        told("thing ", 0, 99, " of 1 bulk 1;");
        told("thing 1 of ", 0, 5, " bulk 1;");
        told("thing 1 of 1 bulk ", 1, 9, ";");
        told("room ", 0, 99, ";");
        told("steal ", 0, 7, ";");
        told("send ", 0, 7, ";");
        told("give ", 0, 7, " to 1;");
        told("give 1 to ", 0, 5, ";");
        told("day ", 1, 60, ";");
    }

    private static void clauses() {
        Checks.at("{CLAUSE}, 24 at most; 6 the 25th CLAUSE (at its first TOKEN)");
        String[] each = {"owner 1;", "thing 1 of 1 bulk 1;", "room 1;", "steal 1;", "send 1;", "give 1 to 1;", "day 1;",
            "dears 1;", "after 1;", "to 1;", "brings 1;"};
        for (String clause : each) {
            good("day 1;".repeat(23) + clause);
            good(clause + "day 1;".repeat(23));
            fault("day 1;".repeat(24) + clause, 6, 144);
            fault("day 1;".repeat(24) + " \n" + clause.substring(0, 1), 1, 146);
        }
        good("");
        good("day 1;".repeat(23));
        good("dears 1;after 1;to 1;brings 1;" + "day 1;".repeat(20));
        fault("dears 1;after 1;to 1;brings 1;" + "day 1;".repeat(21), 6, 150);
        fault("day 1;".repeat(24) + "day", 6, 144);
        fault("day 1;".repeat(24) + " owner 99;", 6, 145);
        fault("day 1;".repeat(24) + ";", 1, 144);
        fault("day 1;".repeat(25) + "@", 6, 144);
        fault("day 1;".repeat(23) + "day 1", 1, 143);
    }

    private static void eachLawOnce() {
        Checks.at("4 dears, after, to, brings for the second time (at it)");
        String[] laws = {"dears", "after", "to", "brings"};
        for (String law : laws) {
            for (String other : laws) {
                String two = law + " 1;" + other + " 1;";
                if (law.equals(other)) fault(two, 4, law.length() + 3);
                else good(two);
                fault(two + law + " 1;", 4, law.equals(other) ? law.length() + 3 : two.length());
            }
            fault(law + " 1;room 5; " + law, 4, law.length() + 11);
            fault(law + " " + law + " 1;", 1, law.length() + 1);
        }
        // A text that a fault has ended leaves no law behind for the next.
        ThanksByPost x = new ThanksByPost();
        for (String law : laws) Checks.text(x, law + " 1;@");
        due("each is the first time", 0, Checks.text(x, "dears 1;after 1;to 1;brings 1;"));
        due("and so for each text", 1, Checks.text(x, "dears 1;after 1;to 1;brings 1;"));
    }

    // ---- faults

    private static final String[] LONG_LAW = {"brings", "if", "not", "1", "<", "2", "and", "3", ">=", "(", "4", "+", "-", "5", ")",
        "or", "day", "#", "6", "then", "(", "pence", "-", "7", ")", "*", "left", "8", "of", "9", "else", "kept", "/", "dear",
        "-", "thing", "end", ";"};
    private static final String[] DEEDS = {"owner", "1", ";", "thing", "1", "of", "1", "bulk", "1", ";", "room", "1", ";", "steal",
        "1", ";", "send", "1", ";", "give", "1", "to", "1", ";", "day", "1", ";"};

    private static String joined(String[] tokens, int count) {
        StringBuilder text = new StringBuilder();
        for (int i = 0; i < count; i++) text.append(tokens[i]).append(i + 1 < count ? " " : "");
        return text.toString();
    }

    private static void cutShort() {
        Checks.at("1, of the end at the length");
        for (String[] tokens : new String[][] {LONG_LAW, DEEDS}) {
            for (int count = 0; count <= tokens.length; count++) {
                String text = joined(tokens, count);
                boolean whole = count == 0 || tokens[count - 1].equals(";");
                fault(text, whole ? 0 : 1, whole ? -1 : text.length());
                fault(text + " \n ", whole ? 0 : 1, whole ? -1 : text.length() + 3);
            }
        }
    }

    /** What can stand nowhere, in place of each token: the fault is there. */
    private static void spoilt() {
        Checks.at("FAULTS, at the TOKEN's first byte");
        for (String[] tokens : new String[][] {LONG_LAW, DEEDS}) {
            for (int at = 0; at < tokens.length; at++) {
                String ahead = joined(tokens, at) + (at > 0 ? " " : "");
                for (String none : new String[] {"@", "abc", "brin", "\u00e9", "\t", "="}) {
                    if (none.equals("=") && isAsked(tokens[at])) continue;
                    fault(ahead + none + " 1 ;", 1, ahead.length());
                }
            }
        }
    }

    private static final String[] WORDS = {"then", "else", "end", "of", "or", "and", "not", "left", "if", "to", "bulk", "dears",
        "after", "brings", "owner", "thing", "room", "steal", "send", "give", "day", "kept", "dear", "from", "pence"};

    /** The words that join are each its own: no other stands in its place. */
    private static void joining() {
        Checks.at("1 it can't stand there");
        for (String[] tokens : new String[][] {LONG_LAW, DEEDS}) {
            for (int at = 1; at < tokens.length; at++) {
                boolean joins = List.of("then", "else", "end", "of", "to").contains(tokens[at])
                    || tokens == DEEDS && tokens[at].equals("bulk");
                for (String word : WORDS) {
                    boolean asks = tokens[at].equals("then") && (word.equals("or") || word.equals("and"));
                    if (!joins || asks || word.equals(tokens[at])) continue;
                    String ahead = joined(tokens, at) + " ";
                    fault(ahead + word + " 1 ;", 1, ahead.length());
                    fault(ahead + word, 1, ahead.length());
                }
            }
        }
        for (String word : WORDS) {
            boolean begins = List.of("dears", "after", "to", "brings", "owner", "thing", "room", "steal", "send", "give", "day")
                .contains(word);
            fault("room 5;" + word, 1, begins ? 7 + word.length() : 7);
            fault("room " + word + ";", 1, 5);
            fault("room 5 " + word + ";", 1, 7);
            fault("dears 5 " + word + ";", 1, 8);
        }
    }

    private static boolean isAsked(String token) {
        return token.equals("<") || token.equals(">=") || token.equals("#");
    }

    private static void theLeastFault() {
        Checks.at("of one the least");
        fault("10000;", 1, 0);
        fault("dears 1 10000;", 1, 8);
        fault("room 5 10000;", 1, 7);
        fault("dears if 1<2 10000", 1, 13);
        fault("dears 1 pence;", 1, 8);
        fault("pence", 1, 0);
        fault("owner pence;", 1, 6);
        fault("dears 1;room dears;", 1, 13);
        fault("dears 1;dears", 4, 8);
        String full = "dears 1;" + "day 1;".repeat(23);
        fault(full + "dears 1;", 4, 146);
        fault(full + "after 1;", 6, 146);
        fault(full + "after", 6, 146);
        fault(full + "pence", 1, 146);
        fault(full + "10000", 1, 146);
        fault("dears " + "(".repeat(8) + "1(", 1, 15);
        fault("dears " + "(".repeat(8) + "1 left", 1, 16);
        fault("dears " + "(".repeat(8) + "1 if", 1, 16);
        fault("dears " + "(".repeat(8) + "not", 1, 14);
        fault("dears " + "(".repeat(8) + "10000", 2, 14);
        fault("dears " + "(".repeat(8) + "thing", 5, 14);
        fault("dears " + "(".repeat(8) + ")", 1, 14);
    }

    private static void theFirstFault() {
        Checks.at("FAULTS, the first as TOKENS are come to");
        fault("dears 10000+thing;after;", 2, 6);
        fault("dears thing+10000;after;", 5, 6);
        fault("dears 1;dears 10000;", 4, 8);
        fault("dears 10000;dears 1;", 2, 6);
        fault("owner 11 @", 2, 6);
        fault("owner @ 11", 1, 6);
        fault("thing 100 of 6 bulk 0;", 2, 6);
        fault("thing 99 of 6 bulk 0;", 2, 12);
        fault("dears if thing<pence then 10000", 5, 9);
        fault("day 0;@", 2, 4);
        fault("after 1;to 1;brings 1;dears thing;dears", 5, 28);
    }

    private static void namesOfTheClause() {
        Checks.at("5 a NAME that isn't of that CLAUSE (at it)");
        String[] laws = {"dears ", "after ", "to ", "brings "};
        for (int law = 0; law < 4; law++) {
            String ahead = laws[law];
            for (String name : new String[] {"day", "kept", "dear", "bulk", "owner", "from"}) {
                good(ahead + name + ";");
                good(ahead + "if " + name + "<1 then 2 else left " + name + " of -" + name + " end;");
            }
            if (law >= 2) good(ahead + "1+thing;");
            else fault(ahead + "1+thing;", 5, ahead.length() + 2);
            if (law == 3) good(ahead + "(pence);");
            else fault(ahead + "(pence);", 5, ahead.length() + 1);
            fault(ahead + "if 1<2 then room", 1, ahead.length() + 12);
            for (String other : new String[] {"dears", "after", "to", "brings", "room", "steal", "send", "give", "of", "then",
                "else", "end", "or", "and", "not"}) {
                fault(ahead + other + ";", 1, ahead.length());
            }
        }
        good("brings thing+pence;to thing;");
        fault("brings thing+pence;to thing+pence;", 5, 28);
        fault("to thing;after thing;", 5, 15);
    }

    // ---- 3: what is open

    /** A sum as deep as that, of one kind of sign: how it begins, and how it ends. */
    private static void deep(String begins, String ends, String ahead, String behind, int before) {
        for (int n = 1; n <= 8 - before; n++) {
            good(ahead + begins.repeat(n) + "1" + ends.repeat(n) + behind);
        }
        String most = ahead + begins.repeat(8 - before);
        for (String ninth : new String[] {"(1)", "-1", "left 1 of 1", "if 1<2 then 1 else 2 end"}) {
            fault(most + ninth + ends.repeat(8 - before) + behind, 3, most.length());
        }
        fault(most + begins, 3, most.length());
    }

    private static void openAroundOneAnother() {
        Checks.at("3 the 9th of (, not, left, if and - that are open around one another (at it)");
        deep("(", ")", "dears ", ";", 0);
        deep("-", "", "dears ", ";", 0);
        deep("left ", " of 1", "dears ", ";", 0);
        deep("left 1 of ", "", "dears ", ";", 0);
        // Two that stand ahead, and three times two signs.
        deep("(-", ")", "dears ((", "));", 5);
        for (String law : new String[] {"after ", "to ", "brings "}) deep("(", ")", law, ";", 0);
        deep("(", ")", "dears 1+", ";", 0);
        deep("(", ")", "dears 1*", "+5;", 0);
        deep("(", ")", "dears 1-", ";", 0);
        deep("(", ")", "dears -", ";", 1);
        deep("(", ")", "dears left ", " of 1;", 1);
        deep("(", ")", "dears left 1 of ", ";", 1);
        deep("(", ")", "dears if 1<", " then 1 else 1 end;", 1);
        deep("(", ")", "dears if ", "=1 then 1 else 1 end;", 1);
        deep("(", ")", "dears if not 1<", " then 1 else 1 end;", 2);
        deep("(", ")", "dears if not not ", "<1 then 1 else 1 end;", 3);
        deep("(", ")", "dears if 1<2 or 1<", " then 1 else 1 end;", 1);
        deep("(", ")", "dears if 1<2 then ", " else 1 end;", 1);
        deep("(", ")", "dears if 1<2 then 1 else ", " end;", 1);
        String nots = "dears if " + "not ".repeat(7);
        good(nots + "1<2 then 1 else 2 end;");
        fault(nots + "not 1<2 then 1 else 2 end;", 3, nots.length());
        fault(nots + "(1)<2 then 1 else 2 end;", 3, nots.length());
        fault(nots + "1<-2 then 1 else 2 end;", 3, nots.length() + 2);
        String ifs = "dears " + "if 1<2 then ".repeat(8) + "1" + " else 1 end".repeat(8) + ";";
        good(ifs);
        fault("dears " + "if 1<2 then ".repeat(8) + "if", 3, 102);
        fault("dears " + "if 1<2 then 1 else ".repeat(8) + "if", 3, 158);
        fault("dears " + "if ".repeat(8) + "if", 3, 30);
        fault("dears " + "if ".repeat(8) + "not", 3, 30);
    }

    private static void closedAgain() {
        Checks.at("3 open around one another: what is closed is open no more");
        String eight = "(".repeat(8) + "1" + ")".repeat(8);
        String nine = "(" + eight + ")";
        String seven = "(".repeat(7) + "1" + ")".repeat(7);
        String six = "(".repeat(6) + "1" + ")".repeat(6);
        good("dears " + eight + "+" + eight + "*" + eight + ";");
        fault("dears " + eight + "+" + nine + ";", 3, 6 + eight.length() + 1 + 8);
        good("dears -1*" + eight + ";");
        good("dears -" + seven + "+" + eight + ";");
        good("dears left 1 of 2*" + eight + ";");
        good("dears left " + seven + " of " + seven + ";");
        fault("dears left " + seven + " of " + eight + ";", 3, 11 + seven.length() + 4 + 7);
        good("dears if not 1<2 and 1<" + seven + " then " + seven + " else " + seven + " end+" + eight + ";");
        good("dears if not 1<" + six + " or not " + six + "<1 then 1 else 2 end;");
        fault("dears if not 1<2 and 1<" + eight, 3, 23 + 7);
        good("dears if 1<2 then 1 else 2 end-" + eight + ";after " + eight + ";");
        good("dears 1" + "-1".repeat(40) + ";");
        good("dears -1" + "--1".repeat(40) + ";");
        // A binary - opens nothing; the one of a ONE does.
        good("dears 1" + "-(1".repeat(8) + ")".repeat(8) + ";");
        fault("dears " + "-(".repeat(4) + "-1", 3, 14);
    }

    // ---- what laws come to

    private static ThanksByPost kept(String text) {
        ThanksByPost x = Cities.two();
        x.give(0, 1);
        x.steal(0);
        Checks.rule(x, text);
        return x;
    }

    private static void law(String law, int what, String sum, int want) {
        due(law + " " + sum, want, kept(law + " " + sum + ";").law(0, what));
    }

    private static void bounds(String law, int what, int least, int most) {
        law(law, what, "" + most, most);
        law(law, what, most + "-1", most - 1);
        law(law, what, most + "+1", most);
        law(law, what, "9999*9999", most);
        law(law, what, "0-" + -least, least);
        law(law, what, "0-" + -least + "+1", least + 1);
        law(law, what, "0-" + -least + "-1", least);
        law(law, what, "-9999*9999", least);
        law(law, what, "0", 0);
    }

    private static void lawBounds() {
        Checks.at("dears: -99 at least, 99 at most");
        bounds("dears", 0, -99, 99);
        Checks.at("after: 0 at least, 9999 at most");
        bounds("after", 1, 0, 9999);
        Checks.at("to: 0 at least, the highest OWNER at most");
        bounds("to", 2, 0, 1);
        ThanksByPost x = kept("to 5;");
        for (int highest = 1; highest < 6; highest++) {
            due("the highest told yet", highest, x.law(0, 2));
            x.owner(1);
        }
        due("sent to that one", 5, x.send(0));
        Checks.at("brings: -9999 at least, 9999 at most");
        bounds("brings", 3, -9999, 9999);
    }

    private static void withoutLaws() {
        Checks.at("THE TEXT (told; at first none) rules; without: 1, 9, FROM, DEAR");
        int[] without = {1, 9, 1, 40};
        int[] with = {5, 6, 0, 8};
        String[] laws = {"dears 5;", "after 6;", "to 0;", "brings 8;"};
        ThanksByPost x = kept("");
        for (int what = 0; what < 4; what++) due("law " + what, without[what], x.law(0, what));
        x.by(-1);
        for (int what = 0; what < 4; what++) due("law " + what, without[what], x.law(0, what));
        for (int sets = 0; sets < 16; sets++) {
            StringBuilder text = new StringBuilder();
            for (int what = 3; what >= 0; what--) if ((sets >> what & 1) == 1) text.append(laws[what]);
            x = kept(text.toString());
            for (int what = 0; what < 4; what++) {
                due("law " + what + " by " + text, (sets >> what & 1) == 1 ? with[what] : without[what], x.law(0, what));
            }
            due("no law 4", -100000, x.law(0, 4));
            due("no law -1", -100000, x.law(0, -1));
        }
    }

    private static void brings(String sum, int want) {
        law("brings", 3, sum, want);
    }

    private static void aMillionAtEachStep() {
        Checks.at("what is above 1000000 (below the same less) is that, at each step");
        brings("1000*1000/1000", 1000);
        brings("1000*1000-999*1001", 1);
        brings("1000*1000+1-999*1001", 1);
        brings("1001*999+1-999*1001", 1);
        brings("1001*999+2-999*1001", 1);
        brings("1001*999+0-999*1001", 0);
        brings("9999*9999-1000*1000", 0);
        brings("1000*1000*1000-1000*1000", 0);
        brings("9999*9999*9999*9999/1000", 1000);
        brings("9999*9999*-9999/1000", -1000);
        brings("0-1000*1000+999*1001", -1);
        brings("0-1000*1000-1+999*1001", -1);
        brings("0-999*1001-1+999*1001", -1);
        brings("0-999*1001-2+999*1001", -1);
        brings("-(1000*1000)/1000", -1000);
        brings("-(-(9999*9999))-999*1001", 1);
        brings("left (9999*9999) of 7", 1000000 % 7);
        brings("9999*101-9999", 9999);
        brings("9999*100+100-9999*100", 100);
        brings("9999*100+101-9999*100", 100);
    }

    private static void cutTowardsZero() {
        Checks.at("/ cuts towards 0, by 0 it is 0");
        for (int a = -7; a <= 7; a++) {
            for (int b = -3; b <= 3; b++) {
                int want = 0;
                while (b != 0 && (want + 1) * Math.abs(b) <= Math.abs(a)) want++;
                brings("(" + signed(a) + ")/" + signed(b), a < 0 == b < 0 ? want : -want);
            }
        }
        brings("1/0+3", 3);
        brings("1000*1000/0", 0);
        brings("0/0", 0);
        brings("100/7*7", 98);
        brings("7*100/7", 100);
    }

    private static String signed(int n) {
        return n < 0 ? "-" + -n : "" + n;
    }

    private static void left() {
        Checks.at("left ONE of ONE: from 0 up to below its size; of 0: 0");
        for (int a = -13; a <= 13; a++) {
            for (int b = -6; b <= 6; b++) {
                int want = 0;
                for (int r = 0; r < Math.abs(b); r++) if (Math.abs(a - r) % Math.abs(b) == 0) want = r;
                brings("left " + signed(a) + " of " + signed(b), want);
            }
        }
        brings("left (0-1000*1000) of 9999", 9999 - 1000000 % 9999);
        brings("left 9999 of 9999", 0);
        brings("left 9998 of 9999", 9998);
    }

    private static void asks() {
        Checks.at("SUM one of < <= > >= = # (unlike) SUM; not, and, or");
        String[] signs = {"<", "<=", ">", ">=", "=", "#"};
        for (int a = -1; a <= 1; a++) {
            for (int b = -1; b <= 1; b++) {
                boolean[] yes = {a < b, a <= b, a > b, a >= b, a == b, a != b};
                for (int s = 0; s < 6; s++) {
                    brings("if " + signed(a) + signs[s] + signed(b) + " then 1 else 0 end", yes[s] ? 1 : 0);
                    brings("if not " + signed(a) + signs[s] + signed(b) + " then 1 else 0 end", yes[s] ? 0 : 1);
                }
            }
        }
        List<String> some = new ArrayList<>(List.of("1=1", "1=2", "not 1=1", "not 1=2"));
        for (int i = 0; i < 4; i++) {
            for (int j = 0; j < 4; j++) {
                boolean one = i == 0 || i == 3;
                boolean two = j == 0 || j == 3;
                brings("if " + some.get(i) + " and " + some.get(j) + " then 1 else 0 end", one && two ? 1 : 0);
                brings("if " + some.get(i) + " or " + some.get(j) + " then 1 else 0 end", one || two ? 1 : 0);
                brings("if 1=1 or " + some.get(i) + " and " + some.get(j) + " then 1 else 0 end", 1);
                brings("if " + some.get(i) + " and " + some.get(j) + " or 1=1 then 1 else 0 end", 1);
            }
        }
        brings("if 1000*1000<1000*1000+1 then 1 else 0 end", 0);
    }

    private static void sumsAndOnes() {
        Checks.at("SUM: PRODUCT {+ or - PRODUCT}; PRODUCT: ONE {* or / ONE}; left ONE of ONE; if .. SUM .. then SUM else SUM end");
        brings("if 1+2*3-4=9/3 then 1 else 0 end", 1);
        brings("if 9/3=1+2*3-4 then 1 else 0 end", 1);
        brings("if not 9/3#1+2*3-4 or 1=2 then 1 else 0 end", 1);
        brings("if 1=2 or 9/3=1+2*3-4 and 5-1*2=3 then 1 else 0 end", 1);
        brings("if 1=1 then 1+2*3-4 else 0 end", 3);
        brings("if 1=2 then 0 else 1+2*3-4 end", 3);
        brings("(1+2*3-4)*5", 15);
        brings("-(1+2*3-4)", -3);
        brings("left (1+2*3) of (1+2)", 1);
        brings("left 7 of 4+2", 5);
        brings("left 7 of 4*2", 6);
        brings("left 7 of 4/3", 1);
        brings("9-left 7 of 4-2", 4);
        brings("-7+2", -5);
        brings("left -7 of 4", 1);
        for (String more : new String[] {"+", "-", "*", "/"}) {
            fault("dears left 1" + more + "2 of 3;", 1, 12);
            good("dears left (1" + more + "2) of 3;");
            good("dears left 1 of 2" + more + "3;");
            good("dears if 1" + more + "2<3" + more + "4 then 5" + more + "6 else 7" + more + "8 end;");
            good("dears -1" + more + "2;");
            good("dears (1" + more + "2);");
        }
    }

    private static void names() {
        Checks.at("NAMES: day, kept, dear, bulk, owner, from in all; thing in to, brings; pence in brings");
        ThanksByPost x = new ThanksByPost();
        for (int i = 0; i < 6; i++) x.owner(i);
        for (int i = 0; i < 8; i++) x.thing(i == 7 ? 99 : 0, i == 7 ? 5 : 0, i == 7 ? 9 : 1);
        x.room(99);
        x.give(7, 4);
        x.steal(7);
        x.steal(0);
        x.image();
        String[] sums = {"day", "kept", "dear", "bulk", "owner", "from", "thing", "pence"};
        int[] last = {0, 0, 99, 9, 5, 4, 7, 0};
        int[] first = {0, 0, 0, 1, 0, 0, 0, 0};
        for (int i = 0; i < 8; i++) {
            x.back();
            Checks.rule(x, "brings " + sums[i] + ";");
            due(sums[i] + " of the last", last[i], x.law(7, 3));
            due(sums[i] + " of the first", first[i], x.law(0, 3));
            x.day(2);
            due("kept is for days, day of all", i < 2 ? 2 : i == 2 ? 99 : last[i], x.law(7, 3));
        }
        x.back();
        Checks.rule(x, "to thing;brings day+9;");
        due("to the thing's number, the highest owner at most", 5, x.law(7, 2));
        due("to the thing's number", 0, x.law(0, 2));
    }

    // ---- played and ruling

    private static void played() {
        Checks.at("PLAYED: its CLAUSES but laws, in their order, as by hand; one that can't be ends it: its number among all CLAUSES");
        ThanksByPost x = new ThanksByPost();
        for (int none : new int[] {-2, -1, 0, 1, 4}) due("none such", -2, x.played(none));
        Checks.text(x, "");
        due("an empty one: all is done", -1, x.played(0));
        due("text 1 isn't there", -2, x.played(1));
        Checks.text(x, "dears 1;after 1;to 1;brings 1;");
        due("laws alone: all is done", -1, x.played(1));
        due("they don't rule", -1, x.about(6));
        Checks.text(x, "owner 3;thing 5 of 0 bulk 9;thing 5 of 1 bulk 9;owner 3;");
        due("the third can't be", 2, x.played(2));
        due("what was done stays", 1, x.about(1));
        due("what stands behind isn't done", 1, x.about(0));
        due("now there is an owner 1", -1, x.played(2));
        due("things", 3, x.about(1));
        due("owners", 3, x.about(0));
        Checks.text(x, "room 9;".repeat(22) + "steal 0;steal 1;");
        due("the twenty-fourth can't be", 23, x.played(3));
        due("the one ahead of it is done", -1, x.of(0, 3));
        due("the first can't be: it is kept", 22, x.played(3));
        due("one step", 1, x.about(7));
        due("text 4 isn't there", -2, x.played(4));
        playedAsByHand();
        cannot("steal 0;", 0);
        cannot("dears 1;send 0;", 1);
        cannot("owner 1;".repeat(6) + "after 2;owner 1;", 7);
        cannot("owner 1;thing 1 of 0 bulk 1;give 0 to 0;", 2);
        cannot("owner 1;thing 1 of 0 bulk 1;give 0 to 1;", 2);
        cannot("owner 1;thing 1 of 0 bulk 1;steal 0;give 0 to 0;", 3);
        cannot("owner 1;thing 1 of 0 bulk 9;room 8;steal 0;", 3);
        cannot("owner 1;thing 1 of 0 bulk 9;room 9;steal 0;send 0;send 0;", 5);
        cannot("room 0;room 99;", -1);
    }

    private static void playedAsByHand() {
        ThanksByPost x = new ThanksByPost();
        Checks.text(x, "owner 0;owner 10;owner 7;thing 99 of 1 bulk 9;thing 0 of 0 bulk 1;thing 42 of 2 bulk 3;room 98;"
            + "give 2 to 1;steal 2;steal 0;day 2;send 2;");
        due("all is done", -1, x.played(0));
        int[] lives = {0, 10, 7};
        int[] pence = {0, 44, 0};
        int[] with = {2, 4, 0};
        for (int i = 0; i < 3; i++) {
            due("lives of " + i, lives[i], x.ofOwner(i, 0));
            due("pence of " + i, pence[i], x.ofOwner(i, 1));
            due("things with " + i, with[i], x.ofOwner(i, 2));
        }
        int[][] things = {{99, 9, 1, -1, 0, 1}, {0, 1, 0, 0, -1, -1}, {44, 3, 2, 1, -1, -1}};
        for (int i = 0; i < 3; i++) {
            for (int what = 0; what < 6; what++) due("of(" + i + ", " + what + ")", things[i][what], x.of(i, what));
        }
        due("room", 98, x.about(2));
        due("day", 2, x.about(3));
        due("steps", 6, x.about(7));
    }

    private static void cannot(String text, int clause) {
        ThanksByPost x = new ThanksByPost();
        Checks.text(x, text);
        due("played " + text, clause, x.played(0));
    }

    private static void playedDays() {
        Checks.at("PLAYED (of so many DAYS those that can are done)");
        for (int left = 0; left <= 3; left++) {
            ThanksByPost x = Cities.late(9999 - left);
            x.steal(0);
            int steps = x.about(7);
            Checks.text(x, "room 50;day 2;room 60;");
            due("played with " + left + " days left", left < 2 ? 1 : -1, x.played(0));
            due("those that can are done", Math.min(9999, 9999 - left + 2), x.about(3));
            due("with all they do", 40 + Math.min(2, left), x.of(0, 0));
            due("what stands behind is done, or isn't", left < 2 ? 50 : 60, x.about(2));
            due("each a step", Math.min(30, steps + Math.min(2, left)), x.about(7));
            due("all sixty", Math.min(9999, 9999 - left + 2) + Math.max(0, left - 2), playedSixty(x));
        }
        ThanksByPost x = Cities.two();
        Checks.text(x, "steal 0;day 60;");
        due("sixty", -1, x.played(0));
        due("day", 60, x.about(3));
        due("they came back", 49, x.of(0, 0));
    }

    private static int playedSixty(ThanksByPost x) {
        Checks.text(x, "day 60;");
        due("can't all be", 0, x.played(1));
        return x.about(3);
    }

    private static void ruling() {
        Checks.at("by: THE TEXT (NONE: none): true. False for others");
        ThanksByPost x = Cities.two();
        x.steal(0);
        due("at first none", -1, x.about(6));
        Checks.yes("none", x.by(-1));
        for (int texts = 0; texts < 4; texts++) {
            Checks.no("not there yet", x.by(texts));
            Checks.no("-2", x.by(-2));
            due("as it was", texts - 1, x.about(6));
            Checks.text(x, "dears " + (texts + 20) + ";");
            due("told is not ruling", texts - 1, x.about(6));
            Checks.yes("there", x.by(texts));
            due("it rules", texts + 20, x.law(0, 0));
        }
        Checks.no("no text 4", x.by(4));
        Checks.yes("the first again", x.by(0));
        due("it rules", 20, x.law(0, 0));
        Checks.yes("none again", x.by(-1));
        due("none rules", 1, x.law(0, 0));
        due("no step", 1, x.about(7));
    }
}
