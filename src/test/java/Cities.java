/** Objects to begin with: empty ones, an ordinary one, a full one, and ones on late days. */
final class Cities {
    private Cities() {
    }

    /** Two owners and three things: a clock, a piano, a ring. */
    static ThanksByPost two() {
        ThanksByPost x = new ThanksByPost();
        x.owner(5);
        x.owner(9);
        x.thing(40, 0, 3);
        x.thing(70, 1, 7);
        x.thing(98, 1, 1);
        return x;
    }

    static ThanksByPost ownersAlone() {
        ThanksByPost x = new ThanksByPost();
        x.owner(5);
        x.owner(9);
        return x;
    }

    /** In as few calls as can be: behind 512 of them an object's answers are free. */
    static void passTo(ThanksByPost x, int day) {
        for (int left = day - x.about(3); left > 0; left -= 60) x.day(Math.min(60, left));
        Checks.due("the day that is passed to", day, x.about(3));
    }

    static ThanksByPost late(int day) {
        ThanksByPost x = two();
        passTo(x, day);
        return x;
    }

    /** A ring kept for five days, the clock kept since the last but one. */
    static ThanksByPost last() {
        ThanksByPost x = late(9994);
        Checks.rule(x, "after 9;");
        x.steal(2);
        x.day(4);
        x.steal(0);
        x.day(1);
        x.plan(1, 0);
        Checks.put(x, "room 3;");
        return x;
    }

    /** Something of each kind, done and told ahead of THE IMAGE and behind it, and a text on the tape. */
    static ThanksByPost usual() {
        ThanksByPost x = two();
        Checks.rule(x, "dears 2;after 5;brings dear+1;");
        x.vote(10);
        x.vote(60);
        x.seen(50, 5, true);
        x.seen(20, 5, false);
        x.plan(0, 0);
        x.steal(0);
        x.day(1);
        x.image();
        x.send(0);
        x.steal(2);
        x.day(2);
        x.decades(0, 1);
        x.give(0, 1);
        x.owner(3);
        Checks.text(x, "dears;");
        Checks.put(x, "room 3;day 2;");
        return x;
    }

    /** As many of each as there can be. */
    static ThanksByPost full() {
        ThanksByPost x = new ThanksByPost();
        x.image();
        x.room(99);
        for (int i = 0; i < 6; i++) x.owner(i + 3);
        for (int i = 0; i < 8; i++) x.thing(10 * i + 5, i % 6, i + 1);
        for (int i = 0; i < 4; i++) Checks.text(x, "dears " + i + ";");
        x.by(3);
        for (int i = 0; i < 31; i++) {
            x.steal(i % 8);
            x.send(i % 8);
        }
        x.steal(7);
        for (int i = 0; i < 8; i++) x.plan(i, i);
        for (int i = 0; i < 9; i++) {
            x.vote(11 * i);
            x.seen(11 * i, i + 1, i > 4);
        }
        Checks.put(x, "room 4;".repeat(20) + " ".repeat(160));
        return x;
    }
}
